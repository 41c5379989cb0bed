/-! FEWEST NUDGES: the search by breadth. -/
def BFs (h : Int → Int) (h0 M : Int) (F : Prop) (q t : Int → Int) (i e : Int) : Prop :=
  (0 ≤ i ∧ 1 ≤ e) ∧ (∀ j : Int, 0 ≤ j → j < e → (0 ≤ q j ∧ q j < M) ∧ 0 ≤ t (q j) ∧ t (q j) ≤ j) ∧ (∀ a b : Int, 0 ≤ a → a < b → b < e → q a ≠ q b) ∧ (∀ a b : Int, 0 ≤ a → a ≤ b → b < e → t (q a) ≤ t (q b)) ∧ (i < e → ∀ j : Int, 0 ≤ j → j < e → t (q j) ≤ t (q i) + 1) ∧ (∀ v : Int, 0 ≤ v → v < M → t v = -1 ∨ ∃ j, 0 ≤ j ∧ j < e ∧ q j = v) ∧ (F → ∀ j : Int, 0 ≤ j → j < e → h0 ≤ t (q j) + h (q j))
def BWs (h : Int → Int) (h0 : Int) (q t : Int → Int) (i e : Int) : Prop := ∃ j, i ≤ j ∧ j < e ∧ t (q j) + h (q j) = h0
def BIs (h : Int → Int) (h0 : Int) (q t : Int → Int) (i e : Int) (g : Int → Int) (p : Int) : Prop := BWs h h0 q t (i + 1) e ∨ (t (q i) + h (q i) = h0 ∧ ∀ p' : Int, 0 ≤ p' → p' < p → h (g p') ≠ h (q i) - 1)
section BFS
variable {h : Int → Int} {h0 M : Int} {F : Prop} {q t q' t' : Int → Int} {i e v k0 : Int} {g : Int → Int} {p : Int}
theorem BFs_start (k1 : 0 ≤ k0) (k2 : k0 < M) (hq : q 0 = k0) (ht : ∀ v, 0 ≤ v → v < M → t v = if v = k0 then 0 else -1) : BFs h (h k0) M F q t 0 1 ∧ BWs h (h k0) q t 0 1 := by
  have ej : ∀ j : Int, 0 ≤ j → j < 1 → q j = k0 := fun j a b => by rw [show j = 0 by omega]; exact hq
  have e0 : t k0 = 0 := by rw [ht k0 k1 k2, if_pos rfl]
  refine ⟨⟨⟨by omega, by omega⟩, fun j a b => ?_, fun a b c d f => by omega, fun a b c d f => ?_, fun _ j a b => ?_, fun v a b => ?_, fun _ j a b => ?_⟩, 0, by omega, by omega, ?_⟩
  · rw [ej j a b, e0]; omega
  · rw [ej a c (by omega), ej b (by omega) f]; omega
  · rw [ej j a b, hq]; omega
  · by_cases z : v = k0
    · exact Or.inr ⟨0, by omega, by omega, by rw [hq, z]⟩
    · exact Or.inl (by rw [ht v a b, if_neg z])
  · rw [ej j a b, e0]; omega
  · rw [hq, e0]; omega
theorem BFs_le {N : Nat} (H : BFs h h0 N F q t i e) : e ≤ N := by
  have := pigeon N e.toNat (fun j => q j) (fun j hj => (H.2.1 j (by omega) (by omega)).1) (fun a b c d => H.2.2.1 a b (by omega) (by omega) (by omega))
  omega
theorem BFs_up (H : BFs h h0 M F q t i e) (hi : i < e) : BFs h h0 M F q t (i + 1) e := by
  refine ⟨⟨by have := H.1; omega, H.1.2⟩, H.2.1, H.2.2.1, H.2.2.2.1, fun c j a b => ?_, H.2.2.2.2.2.1, H.2.2.2.2.2.2⟩
  have h1 := H.2.2.2.2.1 hi j a b
  have h2 := H.2.2.2.1 i (i + 1) H.1.1 (by omega) c
  omega
theorem BFs_old (H : BFs h h0 M F q t i e) (ht : t v < 0) (hq' : ∀ j, q' j = if j = e then v else q j) (ht' : ∀ u, t' u = if u = v then t (q i) + 1 else t u) {j : Int} (a : 0 ≤ j) (b : j < e) : q' j = q j ∧ t' (q j) = t (q j) := by
  refine ⟨by rw [hq', if_neg (by omega)], ?_⟩
  have := (H.2.1 j a b).2.1
  rw [ht', if_neg (fun z => by rw [z] at this; omega)]
theorem BFs_new (H : BFs h h0 M F q t i e) (hq' : ∀ j, q' j = if j = e then v else q j) (ht' : ∀ u, t' u = if u = v then t (q i) + 1 else t u) : q' e = v ∧ t' v = t (q i) + 1 := ⟨by rw [hq', if_pos rfl], by rw [ht', if_pos rfl]⟩
theorem BFs_push (H : BFs h h0 M F q t i e) (hi : i < e) (v0 : 0 ≤ v) (v1 : v < M) (ht : t v < 0) (hf : F → h (q i) - 1 ≤ h v) (hq' : ∀ j, q' j = if j = e then v else q j) (ht' : ∀ u, t' u = if u = v then t (q i) + 1 else t u) : BFs h h0 M F q' t' i (e + 1) := by
  have old := fun (j : Int) (a : 0 ≤ j) (b : j < e) => BFs_old H ht hq' ht' a b
  have new := BFs_new H hq' ht'
  have hqi := old i H.1.1 hi
  have hri := H.2.1 i H.1.1 hi
  have cut : ∀ j, j < e + 1 → j < e ∨ j = e := fun j a => by omega
  refine ⟨⟨H.1.1, by have := H.1; omega⟩, fun j a b => ?_, fun a b c d f => ?_, fun a b c d f => ?_, fun _ j a b => ?_, fun u a b => ?_, fun hF j a b => ?_⟩
  · rcases cut j b with z | z
    · rw [(old j a z).1, (old j a z).2]; exact H.2.1 j a z
    · rw [z, new.1, new.2]; omega
  · rcases cut b f with z | z
    · rw [(old a c (by omega)).1, (old b (by omega) z).1]; exact H.2.2.1 a b c d z
    · rw [(old a c (by omega)).1, z, new.1]
      intro w
      have := (H.2.1 a c (by omega)).2.1
      rw [w] at this
      omega
  · rcases cut b f with z | z
    · rw [(old a c (by omega)).1, (old a c (by omega)).2, (old b (by omega) z).1, (old b (by omega) z).2]; exact H.2.2.2.1 a b c d z
    · rcases cut a (by omega) with y | y
      · rw [(old a c y).1, (old a c y).2, z, new.1, new.2]; exact H.2.2.2.2.1 hi a c y
      · rw [y, z]; omega
  · rw [hqi.1, hqi.2]
    rcases cut j b with z | z
    · rw [(old j a z).1, (old j a z).2]; exact H.2.2.2.2.1 hi j a z
    · rw [z, new.1, new.2]; omega
  · by_cases z : u = v
    · exact Or.inr ⟨e, by have := H.1; omega, by omega, by rw [new.1, z]⟩
    · rcases H.2.2.2.2.2.1 u a b with y | ⟨j, j0, j1, y⟩
      · exact Or.inl (by rw [ht', if_neg z, y])
      · exact Or.inr ⟨j, j0, by omega, by rw [(old j j0 j1).1, y]⟩
  · rcases cut j b with z | z
    · rw [(old j a z).1, (old j a z).2]; exact H.2.2.2.2.2.2 hF j a z
    · rw [z, new.1, new.2]
      have h1 := H.2.2.2.2.2.2 hF i H.1.1 hi
      have h2 := hf hF
      omega
theorem BIs_init (H : BWs h h0 q t i e) : BIs h h0 q t i e g 0 := by
  obtain ⟨j, a, b, c⟩ := H
  by_cases z : j = i
  · exact Or.inr ⟨by rw [← z]; exact c, fun p' a b => by omega⟩
  · exact Or.inl ⟨j, by omega, b, c⟩
theorem BIs_push (H : BFs h h0 M F q t i e) (hi : i < e) (ht : t (g p) < 0) (hq' : ∀ j, q' j = if j = e then g p else q j) (ht' : ∀ u, t' u = if u = g p then t (q i) + 1 else t u) (W : BIs h h0 q t i e g p) : BIs h h0 q' t' i (e + 1) g (p + 1) := by
  have old := fun (j : Int) (a : 0 ≤ j) (b : j < e) => BFs_old H ht hq' ht' a b
  have new := BFs_new H hq' ht'
  have hqi := old i H.1.1 hi
  rcases W with ⟨j, a, b, c⟩ | ⟨a, b⟩
  · exact Or.inl ⟨j, a, by omega, by have := H.1; rw [(old j (by omega) b).1, (old j (by omega) b).2]; exact c⟩
  · by_cases z : h (g p) = h (q i) - 1
    · exact Or.inl ⟨e, by omega, by omega, by rw [new.1, new.2]; omega⟩
    · refine Or.inr ⟨by rw [hqi.1, hqi.2]; exact a, fun p' x y => ?_⟩
      rw [hqi.1]
      by_cases w : p' = p
      · rw [w]; exact z
      · exact b p' x (by omega)
theorem BIs_seen (H : BFs h h0 M F q t i e) (hF : F) (hi : i < e) (v0 : 0 ≤ g p) (v1 : g p < M) (ht : 0 ≤ t (g p)) (W : BIs h h0 q t i e g p) : BIs h h0 q t i e g (p + 1) := by
  rcases W with z | ⟨a, b⟩
  · exact Or.inl z
  · by_cases z : h (g p) = h (q i) - 1
    · rcases H.2.2.2.2.2.1 _ v0 v1 with y | ⟨j, j0, j1, y⟩
      · omega
      · have h1 := H.2.2.2.2.2.2 hF j j0 j1
        have h2 := H.2.2.2.2.1 hi j j0 j1
        rw [y] at h1 h2
        refine Or.inl ⟨j, ?_, j1, by rw [y]; omega⟩
        rcases Int.lt_or_le i j with x | x
        · omega
        · have h3 := H.2.2.2.1 j i j0 x hi
          rw [y] at h3
          omega
    · refine Or.inr ⟨a, fun p' x y => ?_⟩
      by_cases w : p' = p
      · rw [w]; exact z
      · exact b p' x (by omega)
theorem BIs_end {n : Int} (W : BIs h h0 q t i e g p) (hd : h (q i) ≠ 0 → ∃ p, 0 ≤ p ∧ p + 1 < n ∧ h (g p) = h (q i) - 1) (hn : n ≤ p + 1) (h1 : h (q i) ≠ 0) : BWs h h0 q t (i + 1) e := by
  rcases W with z | ⟨a, b⟩
  · exact z
  · obtain ⟨p', x, y, z⟩ := hd h1
    exact absurd z (b p' x (by omega))
theorem BFs_hit (H : BFs h h0 M F q t i e) (hF : F) (hi : i < e) (hn : ∀ k, 0 ≤ h k) (W : BWs h h0 q t i e) (hz : h (q i) = 0) : t (q i) = h0 := by
  have h1 := H.2.2.2.2.2.2 hF i H.1.1 hi
  obtain ⟨j, a, b, c⟩ := W
  have h2 := H.2.2.2.1 i j H.1.1 a b
  have h3 := hn (q j)
  omega
theorem BWs_no (W : BWs h h0 q t i e) (hi : e ≤ i) : False := by
  obtain ⟨j, a, b, _⟩ := W
  omega
end BFS
