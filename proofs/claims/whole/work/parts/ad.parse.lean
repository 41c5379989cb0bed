/-! The grammar, read by going down (tokens k, nm; codes so far), and the model's pile beside it. -/
abbrev rpS : Type := Int × (Int → Int) × Int
abbrev rpR : Type := Int × rpS
def rpPut (v : Int) (z : rpS) : rpS := (z.1, fun j => if j = z.2.2 then v else z.2.1 j, z.2.2 + 1)
def rpNx (z : rpS) : rpS := (z.1 + 1, z.2)
def rpB (r : rpR) (f : rpS → rpR) : rpR := if r.1 = 0 then f r.2 else r
def rpHr (w q : Int) : Bool := if 12 ≤ q then decide (w = 16) else decide (q < 6 ∨ w = 15)
def rpFac (k : Int → Int) (one : rpS → rpR) : Nat → rpS → rpR
  | 0, z => (1, z)
  | n + 1, z => if k z.1 = 35 ∨ k z.1 = 36 then rpB (one (rpNx z)) (fun y => rpFac k one n (rpPut (10000 + k z.1) y)) else (0, z)
def rpPrd (k : Int → Int) (one : rpS → rpR) (z : rpS) : rpR := rpB (one z) (rpFac k one 301)
def rpAdd (k : Int → Int) (one : rpS → rpR) : Nat → rpS → rpR
  | 0, z => (1, z)
  | n + 1, z => if k z.1 = 33 ∨ k z.1 = 34 then rpB (rpPrd k one (rpNx z)) (fun y => rpAdd k one n (rpPut (10000 + k z.1) y)) else (0, z)
def rpSum (k : Int → Int) (one : rpS → rpR) (z : rpS) : rpR := rpB (rpPrd k one z) (rpAdd k one 301)
def rpOne (k nm : Int → Int) (w : Int) : Nat → rpS → rpR
  | 0, z => if k z.1 = 42 then (if 9999 < nm z.1 then (2, z) else (0, rpPut (nm z.1) (rpNx z)))
    else if k z.1 < 15 then (if rpHr w (k z.1) = true then (0, rpPut (10000 + k z.1) (rpNx z)) else (5, z))
    else if k z.1 = 37 ∨ k z.1 = 34 then (3, z) else (1, z)
  | m + 1, z => if k z.1 = 42 then (if 9999 < nm z.1 then (2, z) else (0, rpPut (nm z.1) (rpNx z)))
    else if k z.1 < 15 then (if rpHr w (k z.1) = true then (0, rpPut (10000 + k z.1) (rpNx z)) else (5, z))
    else if k z.1 = 37 then rpB (rpSum k (rpOne k nm w m) (rpNx z)) (fun y => if k y.1 = 38 then (0, rpNx y) else (1, y))
    else if k z.1 = 34 then rpB (rpOne k nm w m (rpNx z)) (fun y => (0, rpPut 10045 y))
    else (1, z)
def rpIs (q : Int) : Bool := decide ((29 ≤ q ∧ q ≤ 32) ∨ q = 40 ∨ q = 41)
def rpCmp (k : Int → Int) (one : rpS → rpR) (z : rpS) : rpR := rpB (rpSum k one z) (fun y => if rpIs (k y.1) = true then rpB (rpSum k one (rpNx y)) (fun x => (0, rpPut (10000 + k y.1) x)) else (1, y))
def rpAsk (k nm : Int → Int) (w : Int) : Nat → rpS → rpR
  | 0, z => if k z.1 = 28 then (3, z) else rpCmp k (rpOne k nm w 0) z
  | m + 1, z => if k z.1 = 28 then rpB (rpAsk k nm w m (rpNx z)) (fun y => (0, rpPut 10028 y)) else rpCmp k (rpOne k nm w (m + 1)) z
def rpEi (k nm : Int → Int) (w : Int) : Nat → Bool → Bool → rpS → rpR
  | 0, _, _, z => (1, z)
  | n + 1, an, oo, z => rpB (rpAsk k nm w 8 z) (fun y0 =>
      if k y0.1 = 27 then rpEi k nm w n true oo (rpNx (if an = true then rpPut 10027 y0 else y0))
      else if k y0.1 = 26 then rpEi k nm w n false true (rpNx (if oo = true then rpPut 10026 (if an = true then rpPut 10027 y0 else y0) else (if an = true then rpPut 10027 y0 else y0)))
      else (0, if oo = true then rpPut 10026 (if an = true then rpPut 10027 y0 else y0) else (if an = true then rpPut 10027 y0 else y0)))
/-! What a reading that goes well keeps. -/
def rpK (tn : Int) (z y : rpS) : Prop := z.1 + 1 ≤ y.1 ∧ z.2.2 + 1 ≤ y.2.2 ∧ y.2.2 - z.2.2 ≤ y.1 - z.1 ∧ y.1 ≤ tn ∧ ∀ j, j < z.2.2 → y.2.1 j = z.2.1 j
def rpO (k : Int → Int) (tn : Int) (one : rpS → rpR) : Prop := ∀ z y, one z = (0, y) → rpK tn z y
theorem rpB_0 {r : rpR} {f : rpS → rpR} {y : rpS} (h : rpB r f = (0, y)) : ∃ x, r = (0, x) ∧ f x = (0, y) := by
  unfold rpB at h
  by_cases q : r.1 = 0
  · rw [if_pos q] at h
    exact ⟨r.2, by rw [← q], h⟩
  · rw [if_neg q] at h
    rw [h] at q
    exact absurd rfl q
theorem rpK_put {tn v : Int} {z y : rpS} (h : rpK tn z y) (h2 : y.2.2 - z.2.2 + 1 ≤ y.1 - z.1) : rpK tn z (rpPut v y) := by
  obtain ⟨h1, h3, h4, h5, h6⟩ := h
  refine ⟨h1, ?_, ?_, h5, fun j hj => ?_⟩
  · show z.2.2 + 1 ≤ y.2.2 + 1; omega
  · show y.2.2 + 1 - z.2.2 ≤ y.1 - z.1; omega
  · show (if j = y.2.2 then v else y.2.1 j) = z.2.1 j
    rw [if_neg (by omega)]
    exact h6 j hj
theorem rpK_one {tn v : Int} {z : rpS} (h : z.1 + 1 ≤ tn) : rpK tn z (rpPut v (rpNx z)) := by
  refine ⟨Int.le_refl _, Int.le_refl _, ?_, h, fun j hj => ?_⟩
  · show z.2.2 + 1 - z.2.2 ≤ z.1 + 1 - z.1; omega
  · show (if j = z.2.2 then v else z.2.1 j) = z.2.1 j
    rw [if_neg (by omega)]
/-- one more: from z to y, a token t more, from there to x, then a code -/
theorem rpK_tr {tn v : Int} {z y x : rpS} (h : rpK tn z y) (g : rpK tn (rpNx y) x) : rpK tn z (rpPut v x) := by
  obtain ⟨h1, h3, h4, h5, h6⟩ := h
  obtain ⟨g1, g3, g4, g5, g6⟩ := g
  have g1 : y.1 + 1 + 1 ≤ x.1 := g1
  have g3 : y.2.2 + 1 ≤ x.2.2 := g3
  have g4 : x.2.2 - y.2.2 ≤ x.1 - (y.1 + 1) := g4
  refine ⟨?_, ?_, ?_, g5, fun j hj => ?_⟩
  · show z.1 + 1 ≤ x.1; omega
  · show z.2.2 + 1 ≤ x.2.2 + 1; omega
  · show x.2.2 + 1 - z.2.2 ≤ x.1 - z.1; omega
  · show (if j = x.2.2 then v else x.2.1 j) = z.2.1 j
    rw [if_neg (by omega), g6 j (by show j < y.2.2; omega)]
    exact h6 j hj
theorem rpFac_K {k : Int → Int} {tn : Int} {one : rpS → rpR} (ho : rpO k tn one) {z : rpS} : ∀ (n : Nat) (x y : rpS), rpK tn z x → rpFac k one n x = (0, y) → rpK tn z y ∧ ¬ (k y.1 = 35 ∨ k y.1 = 36)
  | 0, x, y, _, h => by cases h
  | n + 1, x, y, hx, h => by
    unfold rpFac at h
    split at h
    · obtain ⟨u, h1, h2⟩ := rpB_0 h
      exact rpFac_K ho n _ y (rpK_tr hx (ho _ _ h1)) h2
    · rename_i g
      cases h
      exact ⟨hx, g⟩
theorem rpPrd_K {k : Int → Int} {tn : Int} {one : rpS → rpR} (ho : rpO k tn one) {z y : rpS} (h : rpPrd k one z = (0, y)) : rpK tn z y ∧ ¬ (k y.1 = 35 ∨ k y.1 = 36) := by
  obtain ⟨u, h1, h2⟩ := rpB_0 h
  exact rpFac_K ho _ _ y (ho _ _ h1) h2
theorem rpAdd_K {k : Int → Int} {tn : Int} {one : rpS → rpR} (ho : rpO k tn one) {z : rpS} : ∀ (n : Nat) (x y : rpS), rpK tn z x → ¬ (k x.1 = 35 ∨ k x.1 = 36) → rpAdd k one n x = (0, y) → rpK tn z y ∧ ¬ (33 ≤ k y.1 ∧ k y.1 ≤ 36)
  | 0, x, y, _, _, h => by cases h
  | n + 1, x, y, hx, hm, h => by
    unfold rpAdd at h
    split at h
    · obtain ⟨u, h1, h2⟩ := rpB_0 h
      have h3 := rpPrd_K ho h1
      exact rpAdd_K ho n _ y (rpK_tr hx h3.1) h3.2 h2
    · rename_i g
      cases h
      exact ⟨hx, by omega⟩
theorem rpSum_K {k : Int → Int} {tn : Int} {one : rpS → rpR} (ho : rpO k tn one) {z y : rpS} (h : rpSum k one z = (0, y)) : rpK tn z y ∧ ¬ (33 ≤ k y.1 ∧ k y.1 ≤ 36) := by
  obtain ⟨u, h1, h2⟩ := rpB_0 h
  have h3 := rpPrd_K ho h1
  exact rpAdd_K ho _ _ y h3.1 h3.2 h2
theorem rpOne_K {k nm : Int → Int} {w tn : Int} (hk : ∀ a, tn ≤ a → k a = 43) : ∀ m : Nat, rpO k tn (rpOne k nm w m)
  | 0, z, y, h => by
    have hz : ¬ k z.1 = 43 → z.1 + 1 ≤ tn := fun q => by
      rcases Int.lt_or_le z.1 tn with g | g
      · omega
      · exact absurd (hk _ g) q
    unfold rpOne at h
    split at h
    · rename_i g
      split at h
      · cases h
      · cases h; exact rpK_one (hz (by omega))
    · split at h
      · rename_i g
        split at h
        · cases h; exact rpK_one (hz (by omega))
        · cases h
      · split at h <;> cases h
  | m + 1, z, y, h => by
    have hz : ¬ k z.1 = 43 → z.1 + 1 ≤ tn := fun q => by
      rcases Int.lt_or_le z.1 tn with g | g
      · omega
      · exact absurd (hk _ g) q
    have ih := rpOne_K (nm := nm) (w := w) hk m
    unfold rpOne at h
    split at h
    · rename_i g
      split at h
      · cases h
      · cases h; exact rpK_one (hz (by omega))
    · split at h
      · rename_i g
        split at h
        · cases h; exact rpK_one (hz (by omega))
        · cases h
      · split at h
        · obtain ⟨u, h1, h2⟩ := rpB_0 h
          obtain ⟨⟨g1, g2, g3, g4, g5⟩, -⟩ := rpSum_K ih h1
          split at h2
          · rename_i q8
            cases h2
            have g1 : z.1 + 1 + 1 ≤ u.1 := g1
            have g2 : z.2.2 + 1 ≤ u.2.2 := g2
            have g3 : u.2.2 - z.2.2 ≤ u.1 - (z.1 + 1) := g3
            have hu : u.1 + 1 ≤ tn := by
              rcases Int.lt_or_le u.1 tn with g | g
              · omega
              · rw [hk _ g] at q8; omega
            exact ⟨by show z.1 + 1 ≤ u.1 + 1; omega, g2, by show u.2.2 - z.2.2 ≤ u.1 + 1 - z.1; omega, hu, g5⟩
          · cases h2
        · split at h
          · obtain ⟨u, h1, h2⟩ := rpB_0 h
            obtain ⟨g1, g2, g3, g4, g5⟩ := ih _ _ h1
            cases h2
            have g1 : z.1 + 1 + 1 ≤ u.1 := g1
            have g2 : z.2.2 + 1 ≤ u.2.2 := g2
            have g3 : u.2.2 - z.2.2 ≤ u.1 - (z.1 + 1) := g3
            exact rpK_put ⟨by omega, g2, by omega, g4, g5⟩ (by omega)
          · cases h
/-! The model's pile. -/
def rqWh : List Int → rpS → Int → rpS × List Int × Int
  | [], z, o => (z, [], o)
  | p :: P, z, o => if p = 2 then rqWh P (rpPut 10045 z) (o - 1) else (z, p :: P, o)
def rqSt (least : Int) : List Int → rpS → rpS × List Int
  | [], z => (z, [])
  | p :: P, z => if p < 40 ∧ least ≤ p then rqSt least P (rpPut (10030 + p) z) else (z, p :: P)
def rqRun (k nm : Int → Int) (w : Int) : Nat → rpS → List Int → Int → Bool → Option (Int × rpS × Int)
  | 0, _, _, _, _ => none
  | n + 1, z, P, o, false =>
    if k z.1 = 42 then (if 9999 < nm z.1 then some (2, z, o) else rqRun k nm w n (rqWh P (rpPut (nm z.1) (rpNx z)) o).1 (rqWh P (rpPut (nm z.1) (rpNx z)) o).2.1 (rqWh P (rpPut (nm z.1) (rpNx z)) o).2.2 true)
    else if k z.1 < 15 then (if rpHr w (k z.1) = true then rqRun k nm w n (rqWh P (rpPut (10000 + k z.1) (rpNx z)) o).1 (rqWh P (rpPut (10000 + k z.1) (rpNx z)) o).2.1 (rqWh P (rpPut (10000 + k z.1) (rpNx z)) o).2.2 true else some (5, z, o))
    else if k z.1 = 37 ∨ k z.1 = 34 then (if o = 8 then some (3, z, o) else rqRun k nm w n (rpNx z) ((if k z.1 = 37 then 40 else 2) :: P) (o + 1) false)
    else some (1, z, o)
  | n + 1, z, P, o, true =>
    if k z.1 = 33 ∨ k z.1 = 34 then rqRun k nm w n (rpNx (rqSt 3 P z).1) ((k z.1 - 30) :: (rqSt 3 P z).2) o false
    else if k z.1 = 35 ∨ k z.1 = 36 then rqRun k nm w n (rpNx (rqSt 5 P z).1) ((k z.1 - 30) :: (rqSt 5 P z).2) o false
    else if k z.1 = 38 ∧ 40 ∈ P then rqRun k nm w n (rpNx (rqWh (rqSt 3 P z).2.tail (rqSt 3 P z).1 (o - 1)).1) (rqWh (rqSt 3 P z).2.tail (rqSt 3 P z).1 (o - 1)).2.1 (rqWh (rqSt 3 P z).2.tail (rqSt 3 P z).1 (o - 1)).2.2 true
    else some (if (rqSt 3 P z).2 = [] then 0 else 1, (rqSt 3 P z).1, o)
theorem rqSt_at (least : Int) : ∀ (P : List Int) (z : rpS), (rqSt least P z).1.1 = z.1
  | [], _ => rfl
  | p :: P, z => by
    unfold rqSt
    split
    · exact rqSt_at least P _
    · rfl
theorem rqWh_at : ∀ (P : List Int) (z : rpS) (o : Int), (rqWh P z o).1.1 = z.1
  | [], _, _ => rfl
  | p :: P, z, o => by
    unfold rqWh
    split
    · exact rqWh_at P _ _
    · rfl
theorem rqWh_nx : ∀ (P : List Int) (z : rpS) (o : Int), rqWh P (rpNx z) o = (rpNx (rqWh P z o).1, (rqWh P z o).2)
  | [], _, _ => rfl
  | p :: P, z, o => by
    unfold rqWh
    split
    · exact rqWh_nx P (rpPut 10045 z) (o - 1)
    · rfl
theorem rqSt_35 : ∀ (P : List Int) (z : rpS), rqSt 3 P z = rqSt 3 (rqSt 5 P z).2 (rqSt 5 P z).1
  | [], _ => rfl
  | p :: P, z => by
    by_cases h : p < 40 ∧ 5 ≤ p
    · rw [show rqSt 5 (p :: P) z = rqSt 5 P (rpPut (10030 + p) z) from by rw [rqSt, if_pos h], ← rqSt_35 P, rqSt, if_pos (by omega)]
    · rw [show rqSt 5 (p :: P) z = (z, p :: P) from by rw [rqSt, if_neg h]]
def rqFin (k nm : Int → Int) (w : Int) (z : rpS) (P : List Int) (o : Int) (b : Bool) (r : Int × rpS × Int) : Prop := ∃ n, rqRun k nm w n z P o b = some r
/-- the first of a pile isn't below v -/
def rqHd (S : Int → Prop) : List Int → Prop
  | [] => True
  | p :: _ => S p
theorem rqWh_no {P : List Int} (h : rqHd (fun p => p ≠ 2) P) (z : rpS) (o : Int) : rqWh P z o = (z, P, o) := by
  cases P with
  | nil => rfl
  | cons p P => rw [rqWh, if_neg h]
theorem rqSt_no {v : Int} {P : List Int} (h : rqHd (fun p => ¬ (p < 40 ∧ v ≤ p)) P) (z : rpS) : rqSt v P z = (z, P) := by
  cases P with
  | nil => rfl
  | cons p P => rw [rqSt, if_neg h]
def rqA (k nm : Int → Int) (w : Int) (m : Nat) (one : rpS → rpR) : Prop := ∀ (z : rpS) (P : List Int), 0 ≤ z.1 →
  (∀ y, one z = (0, y) → ∀ r, rqFin k nm w (rqWh P y (8 - m)).1 (rqWh P y (8 - m)).2.1 (rqWh P y (8 - m)).2.2 true r → rqFin k nm w z P (8 - m) false r) ∧
  (∀ f y, one z = (f, y) → f ≠ 0 → ∃ y' o', y'.1 = y.1 ∧ rqFin k nm w z P (8 - m) false (f, y', o'))
section RQ
variable {k nm : Int → Int} {w : Int}
theorem rqT1 {z z1 : rpS} {P1 Q : List Int} {o : Int} (h1 : z1.1 = z.1) (g : k z.1 = 35 ∨ k z.1 = 36) (hs : rqSt 5 P1 z1 = (z, Q)) {r : Int × rpS × Int} (h : rqFin k nm w (rpNx z) ((k z.1 - 30) :: Q) o false r) : rqFin k nm w z1 P1 o true r := by
  obtain ⟨n, h⟩ := h
  refine ⟨n + 1, ?_⟩
  rw [rqRun, h1, if_neg (by omega), if_pos g, hs]
  exact h
theorem rqT2 {z z1 : rpS} {P1 Q : List Int} {o : Int} (h1 : z1.1 = z.1) (g : k z.1 = 33 ∨ k z.1 = 34) (hs : rqSt 3 P1 z1 = (z, Q)) {r : Int × rpS × Int} (h : rqFin k nm w (rpNx z) ((k z.1 - 30) :: Q) o false r) : rqFin k nm w z1 P1 o true r := by
  obtain ⟨n, h⟩ := h
  refine ⟨n + 1, ?_⟩
  rw [rqRun, h1, if_pos g, hs]
  exact h
theorem rqT3 {z z1 : rpS} {P1 P : List Int} {o : Int} (h1 : z1.1 = z.1) (g : k z.1 = 38) (hm : 40 ∈ P1) (hs : rqSt 3 P1 z1 = (z, 40 :: P)) {r : Int × rpS × Int} (h : rqFin k nm w (rqWh P (rpNx z) (o - 1)).1 (rqWh P (rpNx z) (o - 1)).2.1 (rqWh P (rpNx z) (o - 1)).2.2 true r) : rqFin k nm w z1 P1 o true r := by
  obtain ⟨n, h⟩ := h
  refine ⟨n + 1, ?_⟩
  rw [rqWh_nx] at h
  rw [rqRun, h1, if_neg (by omega), if_neg (by omega), if_pos ⟨g, hm⟩, hs]
  exact h
theorem rqT4 {z z1 : rpS} {P1 Q : List Int} {o : Int} (h1 : z1.1 = z.1) (g : ¬ (33 ≤ k z.1 ∧ k z.1 ≤ 36)) (hm : ¬ (k z.1 = 38 ∧ 40 ∈ P1)) (hs : rqSt 3 P1 z1 = (z, Q)) : rqFin k nm w z1 P1 o true (if Q = [] then 0 else 1, z, o) := by
  refine ⟨1, ?_⟩
  rw [rqRun, h1, if_neg (by omega), if_neg (by omega), if_neg hm, hs]
variable {tn : Int} {m : Nat} {one : rpS → rpR}
theorem rqFac_A (ht : tn ≤ 301) (hO : rpO k tn one) (hA : rqA k nm w m one) {z0 : rpS} {Q : List Int} (hQ : rqHd (fun p => ¬ (p < 40 ∧ 5 ≤ p)) Q) : ∀ (n : Nat) (z z1 : rpS) (P1 : List Int), 0 ≤ z.1 → z.1 ≤ tn → 602 ≤ z.1 + 2 * n → z1.1 = z.1 → rqSt 5 P1 z1 = (z, Q) → (40 ∈ P1 ↔ 40 ∈ Q) → (∀ r, rqFin k nm w z1 P1 (8 - m) true r → rqFin k nm w z0 Q (8 - m) false r) →
    (∀ y, rpFac k one n z = (0, y) → ∃ z2 P2, z2.1 = y.1 ∧ rqSt 5 P2 z2 = (y, Q) ∧ (40 ∈ P2 ↔ 40 ∈ Q) ∧ ∀ r, rqFin k nm w z2 P2 (8 - m) true r → rqFin k nm w z0 Q (8 - m) false r) ∧
    (∀ f y, rpFac k one n z = (f, y) → f ≠ 0 → ∃ y' o', y'.1 = y.1 ∧ rqFin k nm w z0 Q (8 - m) false (f, y', o'))
  | 0, z, z1, P1, _, hz, hn, _, _, _, _ => by exfalso; omega
  | n + 1, z, z1, P1, hz0, hz, hn, h1, hs, hm, hc => by
    by_cases g : k z.1 = 35 ∨ k z.1 = 36
    · have hone := hA (rpNx z) ((k z.1 - 30) :: Q) (by show 0 ≤ z.1 + 1; omega)
      have hstep : ∀ r, rqFin k nm w (rpNx z) ((k z.1 - 30) :: Q) (8 - m) false r → rqFin k nm w z0 Q (8 - m) false r := fun r h => hc r (rqT1 h1 g hs h)
      obtain ⟨f', u, hu⟩ : ∃ f' u, one (rpNx z) = (f', u) := ⟨_, _, rfl⟩
      have e0 : rpFac k one (n + 1) z = rpB (f', u) (fun y => rpFac k one n (rpPut (10000 + k z.1) y)) := by rw [rpFac, if_pos g, hu]
      by_cases hf : f' = 0
      · subst hf
        obtain ⟨k1, -, -, k4, -⟩ := hO _ _ hu
        have k1 : z.1 + 1 + 1 ≤ u.1 := k1
        have e1 : rpFac k one (n + 1) z = rpFac k one n (rpPut (10000 + k z.1) u) := e0
        have hw : rqWh ((k z.1 - 30) :: Q) u (8 - m) = (u, (k z.1 - 30) :: Q, (8 - m : Int)) := rqWh_no (P := (k z.1 - 30) :: Q) (show k z.1 - 30 ≠ 2 by omega) _ _
        have hone1 := hone.1 u hu
        rw [hw] at hone1
        rw [e1]
        refine rqFac_A ht hO hA hQ n (rpPut (10000 + k z.1) u) u ((k z.1 - 30) :: Q) (by show 0 ≤ u.1; omega) k4 (by show 602 ≤ u.1 + 2 * (n : Int); omega) rfl ?_ ?_ (fun r h => hstep r (hone1 r h))
        · rw [rqSt, if_pos (by omega), show 10030 + (k z.1 - 30) = 10000 + k z.1 by omega]
          exact rqSt_no hQ _
        · rw [List.mem_cons]
          exact ⟨fun q => q.elim (fun q => by omega) id, Or.inr⟩
      · have e1 : rpFac k one (n + 1) z = (f', u) := by rw [e0, rpB, if_neg hf]
        rw [e1]
        refine ⟨fun y h => ?_, fun f y h hf => ?_⟩
        · cases h; exact absurd rfl hf
        · cases h
          obtain ⟨y', o', q1, q2⟩ := hone.2 _ _ hu hf
          exact ⟨y', o', q1, hstep _ q2⟩
    · have e1 : rpFac k one (n + 1) z = (0, z) := by rw [rpFac, if_neg g]
      rw [e1]
      refine ⟨fun y h => ?_, fun f y h hf => ?_⟩
      · cases h; exact ⟨z1, P1, h1, hs, hm, hc⟩
      · cases h; exact absurd rfl hf
theorem rqPrd_A (ht : tn ≤ 301) (hO : rpO k tn one) (hA : rqA k nm w m one) {Q : List Int} (hQ : rqHd (fun p => p ≠ 2 ∧ ¬ (p < 40 ∧ 5 ≤ p)) Q) (z : rpS) (hz : 0 ≤ z.1) :
    (∀ y, rpPrd k one z = (0, y) → ∃ z2 P2, z2.1 = y.1 ∧ rqSt 5 P2 z2 = (y, Q) ∧ (40 ∈ P2 ↔ 40 ∈ Q) ∧ ∀ r, rqFin k nm w z2 P2 (8 - m) true r → rqFin k nm w z Q (8 - m) false r) ∧
    (∀ f y, rpPrd k one z = (f, y) → f ≠ 0 → ∃ y' o', y'.1 = y.1 ∧ rqFin k nm w z Q (8 - m) false (f, y', o')) := by
  have hone := hA z Q hz
  have hQ1 : rqHd (fun p => p ≠ 2) Q := by cases Q with | nil => trivial | cons p P => exact hQ.1
  have hQ2 : rqHd (fun p => ¬ (p < 40 ∧ 5 ≤ p)) Q := by cases Q with | nil => trivial | cons p P => exact hQ.2
  obtain ⟨f', u, hu⟩ : ∃ f' u, one z = (f', u) := ⟨_, _, rfl⟩
  by_cases hf : f' = 0
  · subst hf
    have e1 : rpPrd k one z = rpFac k one 301 u := by rw [rpPrd, hu]; rfl
    obtain ⟨k1, -, -, k4, -⟩ := hO _ _ hu
    have hone1 := hone.1 u hu
    rw [rqWh_no hQ1] at hone1
    rw [e1]
    exact rqFac_A ht hO hA hQ2 301 u u Q (by omega) k4 (by show 602 ≤ u.1 + 602; omega) rfl (rqSt_no hQ2 _) Iff.rfl hone1
  · have e1 : rpPrd k one z = (f', u) := by rw [rpPrd, hu, rpB, if_neg hf]
    rw [e1]
    refine ⟨fun y h => ?_, fun f y h hf => ?_⟩
    · cases h; exact absurd rfl hf
    · cases h
      exact hone.2 _ _ hu hf
theorem rqAdd_A (ht : tn ≤ 301) (hO : rpO k tn one) (hA : rqA k nm w m one) {z0 : rpS} {Q : List Int} (hQ : rqHd (fun p => ¬ (p < 40 ∧ 3 ≤ p)) Q) : ∀ (n : Nat) (z z1 : rpS) (P1 : List Int), 0 ≤ z.1 → z.1 ≤ tn → 602 ≤ z.1 + 2 * n → z1.1 = z.1 → rqSt 3 P1 z1 = (z, Q) → (40 ∈ P1 ↔ 40 ∈ Q) → (∀ r, rqFin k nm w z1 P1 (8 - m) true r → rqFin k nm w z0 Q (8 - m) false r) →
    (∀ y, rpAdd k one n z = (0, y) → ∃ z2 P2, z2.1 = y.1 ∧ rqSt 3 P2 z2 = (y, Q) ∧ (40 ∈ P2 ↔ 40 ∈ Q) ∧ ∀ r, rqFin k nm w z2 P2 (8 - m) true r → rqFin k nm w z0 Q (8 - m) false r) ∧
    (∀ f y, rpAdd k one n z = (f, y) → f ≠ 0 → ∃ y' o', y'.1 = y.1 ∧ rqFin k nm w z0 Q (8 - m) false (f, y', o'))
  | 0, z, z1, P1, _, hz, hn, _, _, _, _ => by exfalso; omega
  | n + 1, z, z1, P1, hz0, hz, hn, h1, hs, hm, hc => by
    by_cases g : k z.1 = 33 ∨ k z.1 = 34
    · have hQ1 : rqHd (fun p => p ≠ 2 ∧ ¬ (p < 40 ∧ 5 ≤ p)) ((k z.1 - 30) :: Q) := by
        show k z.1 - 30 ≠ 2 ∧ ¬ (k z.1 - 30 < 40 ∧ 5 ≤ k z.1 - 30)
        omega
      have hone := rqPrd_A (nm := nm) (w := w) ht hO hA hQ1 (rpNx z) (by show 0 ≤ z.1 + 1; omega)
      have hstep : ∀ r, rqFin k nm w (rpNx z) ((k z.1 - 30) :: Q) (8 - m) false r → rqFin k nm w z0 Q (8 - m) false r := fun r h => hc r (rqT2 h1 g hs h)
      obtain ⟨f', u, hu⟩ : ∃ f' u, rpPrd k one (rpNx z) = (f', u) := ⟨_, _, rfl⟩
      have e0 : rpAdd k one (n + 1) z = rpB (f', u) (fun y => rpAdd k one n (rpPut (10000 + k z.1) y)) := by rw [rpAdd, if_pos g, hu]
      by_cases hf : f' = 0
      · subst hf
        obtain ⟨⟨k1, -, -, k4, -⟩, -⟩ := rpPrd_K hO hu
        have k1 : z.1 + 1 + 1 ≤ u.1 := k1
        have e1 : rpAdd k one (n + 1) z = rpAdd k one n (rpPut (10000 + k z.1) u) := e0
        obtain ⟨z2, P2, q1, q2, q3, q4⟩ := hone.1 u hu
        rw [e1]
        refine rqAdd_A ht hO hA hQ n (rpPut (10000 + k z.1) u) z2 P2 (by show 0 ≤ u.1; omega) k4 (by show 602 ≤ u.1 + 2 * (n : Int); omega) q1 ?_ ?_ (fun r h => hstep r (q4 r h))
        · rw [rqSt_35, q2]
          show rqSt 3 ((k z.1 - 30) :: Q) u = _
          rw [rqSt, if_pos (by omega), show 10030 + (k z.1 - 30) = 10000 + k z.1 by omega]
          exact rqSt_no hQ _
        · rw [q3, List.mem_cons]
          exact ⟨fun q => q.elim (fun q => by omega) id, Or.inr⟩
      · have e1 : rpAdd k one (n + 1) z = (f', u) := by rw [e0, rpB, if_neg hf]
        rw [e1]
        refine ⟨fun y h => ?_, fun f y h hf => ?_⟩
        · cases h; exact absurd rfl hf
        · cases h
          obtain ⟨y', o', q1, q2⟩ := hone.2 _ _ hu hf
          exact ⟨y', o', q1, hstep _ q2⟩
    · have e1 : rpAdd k one (n + 1) z = (0, z) := by rw [rpAdd, if_neg g]
      rw [e1]
      refine ⟨fun y h => ?_, fun f y h hf => ?_⟩
      · cases h; exact ⟨z1, P1, h1, hs, hm, hc⟩
      · cases h; exact absurd rfl hf
theorem rqSum_A (ht : tn ≤ 301) (hO : rpO k tn one) (hA : rqA k nm w m one) {Q : List Int} (hQ : rqHd (fun p => p ≠ 2 ∧ ¬ (p < 40 ∧ 3 ≤ p)) Q) (z : rpS) (hz : 0 ≤ z.1) :
    (∀ y, rpSum k one z = (0, y) → ∃ z2 P2, z2.1 = y.1 ∧ rqSt 3 P2 z2 = (y, Q) ∧ (40 ∈ P2 ↔ 40 ∈ Q) ∧ ∀ r, rqFin k nm w z2 P2 (8 - m) true r → rqFin k nm w z Q (8 - m) false r) ∧
    (∀ f y, rpSum k one z = (f, y) → f ≠ 0 → ∃ y' o', y'.1 = y.1 ∧ rqFin k nm w z Q (8 - m) false (f, y', o')) := by
  have hQ1 : rqHd (fun p => p ≠ 2 ∧ ¬ (p < 40 ∧ 5 ≤ p)) Q := by
    cases Q with
    | nil => trivial
    | cons p P =>
      have hQ : p ≠ 2 ∧ ¬ (p < 40 ∧ 3 ≤ p) := hQ
      show p ≠ 2 ∧ ¬ (p < 40 ∧ 5 ≤ p)
      omega
  have hQ2 : rqHd (fun p => ¬ (p < 40 ∧ 3 ≤ p)) Q := by cases Q with | nil => trivial | cons p P => exact hQ.2
  have hone := rqPrd_A (nm := nm) (w := w) ht hO hA hQ1 z hz
  obtain ⟨f', u, hu⟩ : ∃ f' u, rpPrd k one z = (f', u) := ⟨_, _, rfl⟩
  by_cases hf : f' = 0
  · subst hf
    have e1 : rpSum k one z = rpAdd k one 301 u := by rw [rpSum, hu]; rfl
    obtain ⟨⟨k1, -, -, k4, -⟩, -⟩ := rpPrd_K hO hu
    obtain ⟨z2, P2, q1, q2, q3, q4⟩ := hone.1 u hu
    rw [e1]
    refine rqAdd_A ht hO hA hQ2 301 u z2 P2 (by omega) k4 (by show 602 ≤ u.1 + 602; omega) q1 ?_ q3 q4
    rw [rqSt_35, q2]
    exact rqSt_no hQ2 _
  · have e1 : rpSum k one z = (f', u) := by rw [rpSum, hu, rpB, if_neg hf]
    rw [e1]
    refine ⟨fun y h => ?_, fun f y h hf => ?_⟩
    · cases h; exact absurd rfl hf
    · cases h
      exact hone.2 _ _ hu hf
theorem rqB1 {z : rpS} {P : List Int} {o : Int} (h1 : k z.1 = 42) (h2 : ¬ 9999 < nm z.1) {r : Int × rpS × Int} (h : rqFin k nm w (rqWh P (rpPut (nm z.1) (rpNx z)) o).1 (rqWh P (rpPut (nm z.1) (rpNx z)) o).2.1 (rqWh P (rpPut (nm z.1) (rpNx z)) o).2.2 true r) : rqFin k nm w z P o false r := by
  obtain ⟨n, h⟩ := h
  exact ⟨n + 1, by rw [rqRun, if_pos h1, if_neg h2]; exact h⟩
theorem rqB2 {z : rpS} {P : List Int} {o : Int} (h1 : k z.1 = 42) (h2 : 9999 < nm z.1) : rqFin k nm w z P o false (2, z, o) := ⟨1, by rw [rqRun, if_pos h1, if_pos h2]⟩
theorem rqB3 {z : rpS} {P : List Int} {o : Int} (h0 : ¬ k z.1 = 42) (h1 : k z.1 < 15) (h2 : rpHr w (k z.1) = true) {r : Int × rpS × Int} (h : rqFin k nm w (rqWh P (rpPut (10000 + k z.1) (rpNx z)) o).1 (rqWh P (rpPut (10000 + k z.1) (rpNx z)) o).2.1 (rqWh P (rpPut (10000 + k z.1) (rpNx z)) o).2.2 true r) : rqFin k nm w z P o false r := by
  obtain ⟨n, h⟩ := h
  exact ⟨n + 1, by rw [rqRun, if_neg h0, if_pos h1, if_pos h2]; exact h⟩
theorem rqB4 {z : rpS} {P : List Int} {o : Int} (h0 : ¬ k z.1 = 42) (h1 : k z.1 < 15) (h2 : ¬ rpHr w (k z.1) = true) : rqFin k nm w z P o false (5, z, o) := ⟨1, by rw [rqRun, if_neg h0, if_pos h1, if_neg h2]⟩
theorem rqB5 {z : rpS} {P : List Int} {o : Int} (h1 : k z.1 = 37 ∨ k z.1 = 34) (h2 : o = 8) : rqFin k nm w z P o false (3, z, o) := ⟨1, by rw [rqRun, if_neg (by omega), if_neg (by omega), if_pos h1, if_pos h2]⟩
theorem rqB6 {z : rpS} {P : List Int} {o : Int} (h1 : k z.1 = 37 ∨ k z.1 = 34) (h2 : ¬ o = 8) {r : Int × rpS × Int} (h : rqFin k nm w (rpNx z) ((if k z.1 = 37 then 40 else 2) :: P) (o + 1) false r) : rqFin k nm w z P o false r := by
  obtain ⟨n, h⟩ := h
  exact ⟨n + 1, by rw [rqRun, if_neg (by omega), if_neg (by omega), if_pos h1, if_neg h2]; exact h⟩
theorem rqB7 {z : rpS} {P : List Int} {o : Int} (h0 : ¬ k z.1 = 42) (h1 : ¬ k z.1 < 15) (h2 : ¬ (k z.1 = 37 ∨ k z.1 = 34)) : rqFin k nm w z P o false (1, z, o) := ⟨1, by rw [rqRun, if_neg h0, if_neg h1, if_neg h2]⟩
theorem rqOne_A (hk : ∀ a, tn ≤ a → k a = 43) (ht : tn ≤ 301) : ∀ m : Nat, m ≤ 8 → rqA k nm w m (rpOne k nm w m)
  | 0, _, z, P, hz => by
    by_cases h0 : k z.1 = 42
    · by_cases h1 : 9999 < nm z.1
      · have e : rpOne k nm w 0 z = (2, z) := by rw [rpOne, if_pos h0, if_pos h1]
        rw [e]
        refine ⟨fun y h => ?_, fun f y h hf => ?_⟩
        · cases h
        · cases h; exact ⟨z, _, rfl, rqB2 h0 h1⟩
      · have e : rpOne k nm w 0 z = (0, rpPut (nm z.1) (rpNx z)) := by rw [rpOne, if_pos h0, if_neg h1]
        rw [e]
        refine ⟨fun y h r hr => ?_, fun f y h hf => ?_⟩
        · cases h; exact rqB1 h0 h1 hr
        · cases h; exact absurd rfl hf
    · by_cases h1 : k z.1 < 15
      · by_cases h2 : rpHr w (k z.1) = true
        · have e : rpOne k nm w 0 z = (0, rpPut (10000 + k z.1) (rpNx z)) := by rw [rpOne, if_neg h0, if_pos h1, if_pos h2]
          rw [e]
          refine ⟨fun y h r hr => ?_, fun f y h hf => ?_⟩
          · cases h; exact rqB3 h0 h1 h2 hr
          · cases h; exact absurd rfl hf
        · have e : rpOne k nm w 0 z = (5, z) := by rw [rpOne, if_neg h0, if_pos h1, if_neg h2]
          rw [e]
          refine ⟨fun y h => ?_, fun f y h hf => ?_⟩
          · cases h
          · cases h; exact ⟨z, _, rfl, rqB4 h0 h1 h2⟩
      · by_cases h2 : k z.1 = 37 ∨ k z.1 = 34
        · have e : rpOne k nm w 0 z = (3, z) := by rw [rpOne, if_neg h0, if_neg h1, if_pos h2]
          rw [e]
          refine ⟨fun y h => ?_, fun f y h hf => ?_⟩
          · cases h
          · cases h; exact ⟨z, _, rfl, rqB5 h2 rfl⟩
        · have e : rpOne k nm w 0 z = (1, z) := by rw [rpOne, if_neg h0, if_neg h1, if_neg h2]
          rw [e]
          refine ⟨fun y h => ?_, fun f y h hf => ?_⟩
          · cases h
          · cases h; exact ⟨z, _, rfl, rqB7 h0 h1 h2⟩
  | m + 1, hm8, z, P, hz => by
    have ih := rqOne_A hk ht m (by omega)
    have hO := rpOne_K (nm := nm) (w := w) hk m
    have ho : (8 - ((m + 1 : Nat) : Int)) + 1 = 8 - (m : Int) := by omega
    have ho2 : (8 - (m : Int)) - 1 = 8 - ((m + 1 : Nat) : Int) := by omega
    have ho8 : ¬ (8 - ((m + 1 : Nat) : Int)) = 8 := by omega
    by_cases h0 : k z.1 = 42
    · by_cases h1 : 9999 < nm z.1
      · have e : rpOne k nm w (m + 1) z = (2, z) := by rw [rpOne, if_pos h0, if_pos h1]
        rw [e]
        refine ⟨fun y h => ?_, fun f y h hf => ?_⟩
        · cases h
        · cases h; exact ⟨z, _, rfl, rqB2 h0 h1⟩
      · have e : rpOne k nm w (m + 1) z = (0, rpPut (nm z.1) (rpNx z)) := by rw [rpOne, if_pos h0, if_neg h1]
        rw [e]
        refine ⟨fun y h r hr => ?_, fun f y h hf => ?_⟩
        · cases h; exact rqB1 h0 h1 hr
        · cases h; exact absurd rfl hf
    · by_cases h1 : k z.1 < 15
      · by_cases h2 : rpHr w (k z.1) = true
        · have e : rpOne k nm w (m + 1) z = (0, rpPut (10000 + k z.1) (rpNx z)) := by rw [rpOne, if_neg h0, if_pos h1, if_pos h2]
          rw [e]
          refine ⟨fun y h r hr => ?_, fun f y h hf => ?_⟩
          · cases h; exact rqB3 h0 h1 h2 hr
          · cases h; exact absurd rfl hf
        · have e : rpOne k nm w (m + 1) z = (5, z) := by rw [rpOne, if_neg h0, if_pos h1, if_neg h2]
          rw [e]
          refine ⟨fun y h => ?_, fun f y h hf => ?_⟩
          · cases h
          · cases h; exact ⟨z, _, rfl, rqB4 h0 h1 h2⟩
      · by_cases h2 : k z.1 = 37
        · have hb6 : ∀ r, rqFin k nm w (rpNx z) (40 :: P) (8 - m) false r → rqFin k nm w z P (8 - ((m + 1 : Nat) : Int)) false r := fun r h => rqB6 (Or.inl h2) ho8 (by rw [if_pos h2, ho]; exact h)
          have hs := rqSum_A (nm := nm) (w := w) ht hO ih (Q := 40 :: P) (show (40 : Int) ≠ 2 ∧ ¬ ((40 : Int) < 40 ∧ (3 : Int) ≤ 40) by omega) (rpNx z) (by show 0 ≤ z.1 + 1; omega)
          obtain ⟨f', u, hu⟩ : ∃ f' u, rpSum k (rpOne k nm w m) (rpNx z) = (f', u) := ⟨_, _, rfl⟩
          have e0 : rpOne k nm w (m + 1) z = rpB (f', u) (fun y => if k y.1 = 38 then (0, rpNx y) else (1, y)) := by rw [rpOne, if_neg h0, if_neg h1, if_pos h2, hu]
          by_cases hf : f' = 0
          · subst hf
            obtain ⟨z2, P2, q1, q2, q3, q4⟩ := hs.1 u hu
            obtain ⟨-, hns⟩ := rpSum_K hO hu
            have hmem : 40 ∈ P2 := q3.mpr List.mem_cons_self
            by_cases h8 : k u.1 = 38
            · have e : rpOne k nm w (m + 1) z = (0, rpNx u) := by rw [e0]; show (if k u.1 = 38 then _ else _) = _; rw [if_pos h8]
              rw [e]
              refine ⟨fun y h r hr => ?_, fun f y h hf => ?_⟩
              · cases h
                refine hb6 r (q4 r (rqT3 q1 h8 hmem q2 ?_))
                rw [ho2]
                exact hr
              · cases h; exact absurd rfl hf
            · have e : rpOne k nm w (m + 1) z = (1, u) := by rw [e0]; show (if k u.1 = 38 then _ else _) = _; rw [if_neg h8]
              rw [e]
              refine ⟨fun y h => ?_, fun f y h hf => ?_⟩
              · cases h
              · cases h
                exact ⟨u, _, rfl, hb6 _ (q4 _ (rqT4 q1 hns (fun q => h8 q.1) q2))⟩
          · have e : rpOne k nm w (m + 1) z = (f', u) := by rw [e0, rpB, if_neg hf]
            rw [e]
            refine ⟨fun y h => ?_, fun f y h hf => ?_⟩
            · cases h; exact absurd rfl hf
            · cases h
              obtain ⟨y', o', q1, q2⟩ := hs.2 _ _ hu hf
              exact ⟨y', o', q1, hb6 _ q2⟩
        · by_cases h3 : k z.1 = 34
          · have hb6 : ∀ r, rqFin k nm w (rpNx z) (2 :: P) (8 - m) false r → rqFin k nm w z P (8 - ((m + 1 : Nat) : Int)) false r := fun r h => rqB6 (Or.inr h3) ho8 (by rw [if_neg h2, ho]; exact h)
            have hs := ih (rpNx z) (2 :: P) (by show 0 ≤ z.1 + 1; omega)
            obtain ⟨f', u, hu⟩ : ∃ f' u, rpOne k nm w m (rpNx z) = (f', u) := ⟨_, _, rfl⟩
            have e0 : rpOne k nm w (m + 1) z = rpB (f', u) (fun y => (0, rpPut 10045 y)) := by rw [rpOne, if_neg h0, if_neg h1, if_neg h2, if_pos h3, hu]
            by_cases hf : f' = 0
            · subst hf
              have e : rpOne k nm w (m + 1) z = (0, rpPut 10045 u) := e0
              rw [e]
              refine ⟨fun y h r hr => ?_, fun f y h hf => ?_⟩
              · cases h
                refine hb6 r (hs.1 u hu r ?_)
                rw [show rqWh (2 :: P) u (8 - (m : Int)) = rqWh P (rpPut 10045 u) (8 - ((m + 1 : Nat) : Int)) by rw [rqWh, if_pos rfl, ho2]]
                exact hr
              · cases h; exact absurd rfl hf
            · have e : rpOne k nm w (m + 1) z = (f', u) := by rw [e0, rpB, if_neg hf]
              rw [e]
              refine ⟨fun y h => ?_, fun f y h hf => ?_⟩
              · cases h; exact absurd rfl hf
              · cases h
                obtain ⟨y', o', q1, q2⟩ := hs.2 _ _ hu hf
                exact ⟨y', o', q1, hb6 _ q2⟩
          · have e : rpOne k nm w (m + 1) z = (1, z) := by rw [rpOne, if_neg h0, if_neg h1, if_neg h2, if_neg h3]
            rw [e]
            refine ⟨fun y h => ?_, fun f y h hf => ?_⟩
            · cases h
            · cases h; exact ⟨z, _, rfl, rqB7 h0 h1 (by omega)⟩
/-- a whole sum: the model's pile comes to what going down comes to -/
theorem rq_sum (hk : ∀ a, tn ≤ a → k a = 43) (ht : tn ≤ 301) {m : Nat} (hm : m ≤ 8) {z : rpS} (hz : 0 ≤ z.1) : 
    (∀ y, rpSum k (rpOne k nm w m) z = (0, y) → rqFin k nm w z [] (8 - (m : Int)) false (0, y, 8 - (m : Int))) ∧
    (∀ f y, rpSum k (rpOne k nm w m) z = (f, y) → f ≠ 0 → ∃ y' o', y'.1 = y.1 ∧ rqFin k nm w z [] (8 - m) false (f, y', o')) := by
  have hO := rpOne_K (nm := nm) (w := w) hk m
  have hs := rqSum_A (nm := nm) (w := w) ht hO (rqOne_A hk ht m hm) (Q := []) trivial z hz
  refine ⟨fun y h => ?_, hs.2⟩
  obtain ⟨z2, P2, q1, q2, q3, q4⟩ := hs.1 y h
  have hmem : ¬ 40 ∈ P2 := fun q => nomatch (q3.mp q)
  exact q4 _ (rqT4 q1 (rpSum_K hO h).2 (fun q => hmem q.2) q2)
end RQ
