section MMX
variable {p : Program} {l : Launch} {e : Env} {R : Room} {s : State} {m : MethodId} {args : Array Value} {below : List Frame} {meth : Method} {c : Code} {H : Heap} {locs : List Loc} {cells slots : Nat} {Q : State → Prop}
variable {cc : ByteArray} {ls : Array Slot} {D : va_G} {cl : List vw_C} {cid ad : Nat → Nat} {WS : List Jvm.Cond} {own : String}

theorem mm_snd_ld {pc i ln kind : Nat} {L : List (Option Value)} {st : List Value} {M : mm_M} {z : mm_St} (h : mm_ld pc L st M i ln kind = some z) (hL : mm_Lc ad L ls)
    (k0 : ∀ x : Int32, kind = 0 → ls[i]? = some (.val (.int x)) → W p l e R s m args below meth c H locs cells slots Q (F0 m (pc + ln) ls (.int x :: st.map (mm_rn ad))) → W p l e R s m args below meth c H locs cells slots Q (F0 m pc ls (st.map (mm_rn ad))))
    (k1 : ∀ x : Int64, kind = 1 → ls[i]? = some (.val (.long x)) → W p l e R s m args below meth c H locs cells slots Q (F0 m (pc + ln) ls (.long x :: st.map (mm_rn ad))) → W p l e R s m args below meth c H locs cells slots Q (F0 m pc ls (st.map (mm_rn ad))))
    (k2 : ∀ x : Nat, kind = 2 → ls[i]? = some (.val (.ref x)) → W p l e R s m args below meth c H locs cells slots Q (F0 m (pc + ln) ls (.ref x :: st.map (mm_rn ad))) → W p l e R s m args below meth c H locs cells slots Q (F0 m pc ls (st.map (mm_rn ad))))
    (k3 : kind = 2 → ls[i]? = some (.val .null) → W p l e R s m args below meth c H locs cells slots Q (F0 m (pc + ln) ls (.null :: st.map (mm_rn ad))) → W p l e R s m args below meth c H locs cells slots Q (F0 m pc ls (st.map (mm_rn ad))))
    (kk : ∀ ls' : Array Slot, mm_Lc ad z.2.1 ls' → W p l e R s m args below meth c H locs cells slots Q (F0 m z.1 ls' (z.2.2.1.map (mm_rn ad)))) : W p l e R s m args below meth c H locs cells slots Q (F0 m pc ls (st.map (mm_rn ad))) := by
  unfold mm_ld at h
  split at h
  · rename_i x e1
    cases h
    exact k0 x rfl (hL.2.2 _ _ e1) (kk ls hL)
  · rename_i x e1
    cases h
    exact k1 x rfl (hL.2.2 _ _ e1) (kk ls hL)
  · rename_i x e1
    cases h
    exact k2 _ rfl (hL.2.2 _ _ e1) (kk ls hL)
  · rename_i e1
    cases h
    exact k3 rfl (hL.2.2 _ _ e1) (kk ls hL)
  · cases h
theorem mm_snd_sto {pc i ln kind : Nat} {L : List (Option Value)} {st : List Value} {M : mm_M} {z : mm_St} (h : mm_sto pc L st M i ln kind = some z) (hL : mm_Lc ad L ls)
    (k0 : ∀ (x : Int32) (r : List Value), kind = 0 → i < L.length → (∀ ls' : Array Slot, lv_has ls' L.length ((i, .int x) :: (mm_as ad L).filter (fun q => !(q.1 == i) && !(q.1 + 1 == i && q.2.category == 2))) → W p l e R s m args below meth c H locs cells slots Q (F0 m (pc + ln) ls' r)) → W p l e R s m args below meth c H locs cells slots Q (F0 m pc ls (.int x :: r)))
    (k1 : ∀ (x : Int64) (r : List Value), kind = 1 → i + 1 < L.length → (∀ ls' : Array Slot, lv_has ls' L.length ((i, .long x) :: (mm_as ad L).filter (fun q => !(q.1 == i) && (!(q.1 == i + 1) && !(q.1 + 1 == i && q.2.category == 2)))) → W p l e R s m args below meth c H locs cells slots Q (F0 m (pc + ln) ls' r)) → W p l e R s m args below meth c H locs cells slots Q (F0 m pc ls (.long x :: r)))
    (k2 : ∀ (x : Nat) (r : List Value), kind = 2 → i < L.length → (∀ ls' : Array Slot, lv_has ls' L.length ((i, .ref x) :: (mm_as ad L).filter (fun q => !(q.1 == i) && !(q.1 + 1 == i && q.2.category == 2))) → W p l e R s m args below meth c H locs cells slots Q (F0 m (pc + ln) ls' r)) → W p l e R s m args below meth c H locs cells slots Q (F0 m pc ls (.ref x :: r)))
    (k3 : ∀ (r : List Value), kind = 2 → i < L.length → (∀ ls' : Array Slot, lv_has ls' L.length ((i, .null) :: (mm_as ad L).filter (fun q => !(q.1 == i) && !(q.1 + 1 == i && q.2.category == 2))) → W p l e R s m args below meth c H locs cells slots Q (F0 m (pc + ln) ls' r)) → W p l e R s m args below meth c H locs cells slots Q (F0 m pc ls (.null :: r)))
    (kk : ∀ ls' : Array Slot, mm_Lc ad z.2.1 ls' → W p l e R s m args below meth c H locs cells slots Q (F0 m z.1 ls' (z.2.2.1.map (mm_rn ad)))) : W p l e R s m args below meth c H locs cells slots Q (F0 m pc ls (st.map (mm_rn ad))) := by
  unfold mm_sto at h
  split at h
  · split at h
    · rename_i g
      cases h
      exact k0 _ _ rfl g (fun ls' q => kk ls' (mm_s1_ok g q))
    · cases h
  · split at h
    · rename_i g
      cases h
      exact k1 _ _ rfl g (fun ls' q => kk ls' (mm_s2_ok g q))
    · cases h
  · split at h
    · rename_i g
      cases h
      exact k2 _ _ rfl g (fun ls' q => kk ls' (mm_s1_ok g q))
    · cases h
  · split at h
    · rename_i g
      cases h
      exact k3 _ rfl g (fun ls' q => kk ls' (mm_s1_ok g q))
    · cases h
  · cases h
theorem mm_snd_sw (hx : p.tables.exec = Jvm.exec) (hb : c.code = cc) {pc ln : Nat} {x : Int32} {L : List (Option Value)} {r : List Value} {M : mm_M} {d lo hi : Int} {os : Array Int} (hdg : decode cc pc = .ok (.tableswitch d lo hi os, ln)) (h0 : (0 : Int) ≤ (pc : Int) + d) (hs : (os.size : Int) = hi - lo + 1) (ho : ∀ o ∈ os.toList, (0 : Int) ≤ (pc : Int) + o) :
    ∀ (o2 : List Int) (k : Nat), os.toList.drop k = o2 → (x.toInt < lo ∨ lo + (k : Int) ≤ x.toInt) → (W p l e R s m args below meth c H locs cells slots Q (F0 m (mm_swl pc x L r M d (lo + (k : Int)) o2).1 ls (r.map (mm_rn ad)))) → W p l e R s m args below meth c H locs cells slots Q (F0 m pc ls (.int x :: r.map (mm_rn ad))) := by
  intro o2
  induction o2 with
  | nil =>
    intro k hk hxk kk
    have hle : os.size ≤ k := by simpa using List.drop_eq_nil_iff.mp hk
    refine lv_tableOut hx hb hdg (tgt := ((pc : Int) + d).toNat) ?_ (by omega) kk
    rcases hxk with q | q
    · exact Or.inl q
    · exact Or.inr (by omega)
  | cons o o2 ih =>
    intro k hk hxk kk
    have hlt : k < os.size := by
      rcases Nat.lt_or_ge k os.size with q | q
      · exact q
      · rw [List.drop_eq_nil_iff.mpr (by simpa using q)] at hk; cases hk
    have hget : os[k]? = some o := by
      have h1 : (os.toList.drop k)[0]? = some o := by rw [hk]; rfl
      rw [List.getElem?_drop] at h1
      simpa using h1
    unfold mm_swl at kk
    by_cases e : x.toInt = lo + (k : Int)
    · rw [if_pos e] at kk
      refine lv_tableIn hx hb hdg (off := o) (tgt := ((pc : Int) + o).toNat) (by omega) (by omega) ?_ ?_ kk
      · rw [show (x.toInt - lo).toNat = k by omega]
        exact hget
      · have := ho o (by rw [← Array.getElem?_toList] at hget; exact List.mem_of_getElem? hget)
        omega
    · rw [if_neg e] at kk
      refine ih (k + 1) ?_ ?_ ?_
      · rw [← List.drop_drop, hk]
        rfl
      · rcases hxk with q | q
        · exact Or.inl q
        · exact Or.inr (by omega)
      · rw [show lo + ((k + 1 : Nat) : Int) = lo + (k : Int) + 1 by omega]
        exact kk
theorem mm_swl_L {pc : Nat} {x : Int32} {L : List (Option Value)} {r : List Value} {M : mm_M} {d : Int} : ∀ (os : List Int) (lo : Int), (mm_swl pc x L r M d lo os).2 = (L, r, M)
  | [], _ => rfl
  | o :: os, lo => by
    unfold mm_swl
    split
    · rfl
    · exact mm_swl_L os (lo + 1)

set_option maxHeartbeats 4000000 in
theorem mm_snd_exe (hx : p.tables.exec = Jvm.exec) (hb : c.code = cc) (hown : s.vm.findClass own = some m.cls) (hts : ∀ w ∈ WS, w.before args s = true) (hcl : ∀ (ci : Nat) (C : String) (T : u_T) (N : Nat), cl[ci]? = some (C, T, N) → ∀ w ∈ u_ws C T N, w ∈ WS) (hK : va_K D cl (mm_tys cid) s)
    {i : Instr} {ln r1 r2 pc : Nat} {L : List (Option Value)} {st : List Value} {M : mm_M} {z : mm_St} (h : mm_exe i ln r1 r2 pc L st M = some z) (hok0 : mm_EOk cl WS own cc pc (i, ln, r1, r2)) (hln : mm_sw i = true ∨ ln = mm_ln i) (hL : mm_Lc ad L ls) (hP : va_P D cl (mm_ws cid ad M) H)
    (kk : ∀ ls' : Array Slot, mm_Lc ad z.2.1 ls' → W p l e R s m args below meth c H locs cells slots Q (F0 m z.1 ls' (z.2.2.1.map (mm_rn ad)))) : W p l e R s m args below meth c H locs cells slots Q (F0 m pc ls (st.map (mm_rn ad))) := by
  obtain ⟨hdg, hok⟩ := hok0
  dsimp only at hdg
  unfold mm_exe at h
  split at h
  · -- iconst
    rcases hln with hq | hq
    · cases hq
    dsimp only [mm_ln] at hq
    subst hq
    cases h; exact lv_iconst hx hb hdg rfl (kk ls hL)
  · -- bipush
    rcases hln with hq | hq
    · cases hq
    dsimp only [mm_ln] at hq
    subst hq
    cases h; exact lv_bipush hx hb hdg rfl (kk ls hL)
  · -- sipush
    rcases hln with hq | hq
    · cases hq
    dsimp only [mm_ln] at hq
    subst hq
    cases h; exact lv_sipush hx hb hdg rfl (kk ls hL)
  · -- lconst
    rcases hln with hq | hq
    · cases hq
    dsimp only [mm_ln] at hq
    subst hq
    cases h; exact lv_lconst hx hb hdg rfl (kk ls hL)
  · -- ldc
    rcases hln with hq | hq
    · cases hq
    dsimp only [mm_ln] at hq
    subst hq
    split at h
    · rename_i g; cases h; exact lv_ldc hx hb hown (hts _ (hok.2 g)) hdg (kk ls hL)
    · cases h
  · -- ldc_w
    rcases hln with hq | hq
    · cases hq
    dsimp only [mm_ln] at hq
    subst hq
    cases h; exact lv_ldcw hx hb hown (hts _ hok.2) hdg (kk ls hL)
  · -- ldc2_w
    rcases hln with hq | hq
    · cases hq
    dsimp only [mm_ln] at hq
    subst hq
    cases h; exact lv_ldc2 hx hb hown (hts _ hok.2) hdg (kk ls hL)
  · -- null
    rcases hln with hq | hq
    · cases hq
    dsimp only [mm_ln] at hq
    subst hq
    cases h; exact lv_null hx hb hdg (kk ls hL)
  · -- iln
    rcases hln with hq | hq
    · cases hq
    dsimp only [mm_ln] at hq
    subst hq
    exact mm_snd_ld h hL (fun x e1 e2 k => lv_iload_n hx hb hdg rfl e2 k) (fun x e1 e2 k => absurd e1 (by decide)) (fun x e1 e2 k => absurd e1 (by decide)) (fun e1 e2 k => absurd e1 (by decide)) kk
  · -- il
    rcases hln with hq | hq
    · cases hq
    dsimp only [mm_ln] at hq
    subst hq
    exact mm_snd_ld h hL (fun x e1 e2 k => lv_iload hx hb hdg e2 k) (fun x e1 e2 k => absurd e1 (by decide)) (fun x e1 e2 k => absurd e1 (by decide)) (fun e1 e2 k => absurd e1 (by decide)) kk
  · -- lln
    rcases hln with hq | hq
    · cases hq
    dsimp only [mm_ln] at hq
    subst hq
    exact mm_snd_ld h hL (fun x e1 e2 k => absurd e1 (by decide)) (fun x e1 e2 k => lv_lload_n hx hb hdg rfl e2 k) (fun x e1 e2 k => absurd e1 (by decide)) (fun e1 e2 k => absurd e1 (by decide)) kk
  · -- ll
    rcases hln with hq | hq
    · cases hq
    dsimp only [mm_ln] at hq
    subst hq
    exact mm_snd_ld h hL (fun x e1 e2 k => absurd e1 (by decide)) (fun x e1 e2 k => lv_lload hx hb hdg e2 k) (fun x e1 e2 k => absurd e1 (by decide)) (fun e1 e2 k => absurd e1 (by decide)) kk
  · -- aln
    rcases hln with hq | hq
    · cases hq
    dsimp only [mm_ln] at hq
    subst hq
    exact mm_snd_ld h hL (fun x e1 e2 k => absurd e1 (by decide)) (fun x e1 e2 k => absurd e1 (by decide)) (fun x e1 e2 k => lv_aload_n hx hb hdg rfl e2 k) (fun e1 e2 k => lv_aload_nN hx hb hdg rfl e2 k) kk
  · -- al
    rcases hln with hq | hq
    · cases hq
    dsimp only [mm_ln] at hq
    subst hq
    exact mm_snd_ld h hL (fun x e1 e2 k => absurd e1 (by decide)) (fun x e1 e2 k => absurd e1 (by decide)) (fun x e1 e2 k => lv_aload hx hb hdg e2 k) (fun e1 e2 k => lv_aloadN hx hb hdg e2 k) kk
  · -- isn
    rcases hln with hq | hq
    · cases hq
    dsimp only [mm_ln] at hq
    subst hq
    exact mm_snd_sto h hL (fun x r e1 g k => lv_istore_n hx hb hdg rfl (mm_Lc_has hL) g rfl k) (fun x r e1 g k => absurd e1 (by decide)) (fun x r e1 g k => absurd e1 (by decide)) (fun r e1 g k => absurd e1 (by decide)) kk
  · -- is
    rcases hln with hq | hq
    · cases hq
    dsimp only [mm_ln] at hq
    subst hq
    exact mm_snd_sto h hL (fun x r e1 g k => lv_istore hx hb hdg (mm_Lc_has hL) g rfl k) (fun x r e1 g k => absurd e1 (by decide)) (fun x r e1 g k => absurd e1 (by decide)) (fun r e1 g k => absurd e1 (by decide)) kk
  · -- lsn
    rcases hln with hq | hq
    · cases hq
    dsimp only [mm_ln] at hq
    subst hq
    exact mm_snd_sto h hL (fun x r e1 g k => absurd e1 (by decide)) (fun x r e1 g k => lv_lstore_n hx hb hdg rfl (mm_Lc_has hL) g rfl k) (fun x r e1 g k => absurd e1 (by decide)) (fun r e1 g k => absurd e1 (by decide)) kk
  · -- ls
    rcases hln with hq | hq
    · cases hq
    dsimp only [mm_ln] at hq
    subst hq
    exact mm_snd_sto h hL (fun x r e1 g k => absurd e1 (by decide)) (fun x r e1 g k => lv_lstore hx hb hdg (mm_Lc_has hL) g rfl k) (fun x r e1 g k => absurd e1 (by decide)) (fun r e1 g k => absurd e1 (by decide)) kk
  · -- asn
    rcases hln with hq | hq
    · cases hq
    dsimp only [mm_ln] at hq
    subst hq
    exact mm_snd_sto h hL (fun x r e1 g k => absurd e1 (by decide)) (fun x r e1 g k => absurd e1 (by decide)) (fun x r e1 g k => lv_astore_n hx hb hdg rfl (mm_Lc_has hL) g rfl k) (fun r e1 g k => lv_astore_nN hx hb hdg rfl (mm_Lc_has hL) g rfl k) kk
  · -- as
    rcases hln with hq | hq
    · cases hq
    dsimp only [mm_ln] at hq
    subst hq
    exact mm_snd_sto h hL (fun x r e1 g k => absurd e1 (by decide)) (fun x r e1 g k => absurd e1 (by decide)) (fun x r e1 g k => lv_astore hx hb hdg (mm_Lc_has hL) g rfl k) (fun r e1 g k => lv_astoreN hx hb hdg (mm_Lc_has hL) g rfl k) kk
  · -- iinc
    rename_i k n
    rcases hln with hq | hq
    · cases hq
    dsimp only [mm_ln] at hq
    subst hq
    split at h
    · rename_i x g
      cases h
      have hlt : k < L.length := by rw [mm_nth_eq] at g; exact (List.getElem?_eq_some_iff.mp g).1
      obtain ⟨j, hj⟩ := List.getElem?_of_mem (mm_as_mem (ad := ad) (q := (k, .int x)).mpr ⟨_, g, rfl⟩)
      exact lv_iinc hx hb hdg (mm_Lc_has hL) hj rfl hlt rfl (fun ls' q => kk ls' (mm_s1_ok hlt q))
    · cases h
  · -- iadd
    rcases hln with hq | hq
    · cases hq
    dsimp only [mm_ln] at hq
    subst hq
    unfold mm_ii at h
    split at h
    · cases h; exact lv_iadd hx hb hdg (kk ls hL)
    · cases h
  · -- isub
    rcases hln with hq | hq
    · cases hq
    dsimp only [mm_ln] at hq
    subst hq
    unfold mm_ii at h
    split at h
    · cases h; exact lv_isub hx hb hdg (kk ls hL)
    · cases h
  · -- imul
    rcases hln with hq | hq
    · cases hq
    dsimp only [mm_ln] at hq
    subst hq
    unfold mm_ii at h
    split at h
    · cases h; exact lv_imul hx hb hdg (kk ls hL)
    · cases h
  · -- iand
    rcases hln with hq | hq
    · cases hq
    dsimp only [mm_ln] at hq
    subst hq
    unfold mm_ii at h
    split at h
    · cases h; exact lv_iand hx hb hdg (kk ls hL)
    · cases h
  · -- ior
    rcases hln with hq | hq
    · cases hq
    dsimp only [mm_ln] at hq
    subst hq
    unfold mm_ii at h
    split at h
    · cases h; exact lv_ior hx hb hdg (kk ls hL)
    · cases h
  · -- ixor
    rcases hln with hq | hq
    · cases hq
    dsimp only [mm_ln] at hq
    subst hq
    unfold mm_ii at h
    split at h
    · cases h; exact lv_ixor hx hb hdg (kk ls hL)
    · cases h
  · -- ishl
    rcases hln with hq | hq
    · cases hq
    dsimp only [mm_ln] at hq
    subst hq
    unfold mm_ii at h
    split at h
    · cases h; exact lv_ishl hx hb hdg (kk ls hL)
    · cases h
  · -- ishr
    rcases hln with hq | hq
    · cases hq
    dsimp only [mm_ln] at hq
    subst hq
    unfold mm_ii at h
    split at h
    · cases h; exact lv_ishr hx hb hdg (kk ls hL)
    · cases h
  · -- iushr
    rcases hln with hq | hq
    · cases hq
    dsimp only [mm_ln] at hq
    subst hq
    unfold mm_ii at h
    split at h
    · cases h; exact lv_iushr hx hb hdg rfl (kk ls hL)
    · cases h
  · -- ladd
    rcases hln with hq | hq
    · cases hq
    dsimp only [mm_ln] at hq
    subst hq
    unfold mm_ll at h
    split at h
    · cases h; exact lv_ladd hx hb hdg (kk ls hL)
    · cases h
  · -- lsub
    rcases hln with hq | hq
    · cases hq
    dsimp only [mm_ln] at hq
    subst hq
    unfold mm_ll at h
    split at h
    · cases h; exact lv_lsub hx hb hdg (kk ls hL)
    · cases h
  · -- lmul
    rcases hln with hq | hq
    · cases hq
    dsimp only [mm_ln] at hq
    subst hq
    unfold mm_ll at h
    split at h
    · cases h; exact lv_lmul hx hb hdg (kk ls hL)
    · cases h
  · -- land
    rcases hln with hq | hq
    · cases hq
    dsimp only [mm_ln] at hq
    subst hq
    unfold mm_ll at h
    split at h
    · cases h; exact lv_land hx hb hdg (kk ls hL)
    · cases h
  · -- lor
    rcases hln with hq | hq
    · cases hq
    dsimp only [mm_ln] at hq
    subst hq
    unfold mm_ll at h
    split at h
    · cases h; exact lv_lor hx hb hdg (kk ls hL)
    · cases h
  · -- lxor
    rcases hln with hq | hq
    · cases hq
    dsimp only [mm_ln] at hq
    subst hq
    unfold mm_ll at h
    split at h
    · cases h; exact lv_lxor hx hb hdg (kk ls hL)
    · cases h
  · -- lshl
    rcases hln with hq | hq
    · cases hq
    dsimp only [mm_ln] at hq
    subst hq
    unfold mm_li at h
    split at h
    · cases h; exact lv_lshl hx hb hdg rfl (kk ls hL)
    · cases h
  · -- lshr
    rcases hln with hq | hq
    · cases hq
    dsimp only [mm_ln] at hq
    subst hq
    unfold mm_li at h
    split at h
    · cases h; exact lv_lshr hx hb hdg rfl (kk ls hL)
    · cases h
  · -- lushr
    rcases hln with hq | hq
    · cases hq
    dsimp only [mm_ln] at hq
    subst hq
    unfold mm_li at h
    split at h
    · cases h; exact lv_lushr hx hb hdg rfl (kk ls hL)
    · cases h
  · -- ineg
    rcases hln with hq | hq
    · cases hq
    dsimp only [mm_ln] at hq
    subst hq
    split at h
    · cases h; exact lv_ineg hx hb hdg (kk ls hL)
    · cases h
  · -- lneg
    rcases hln with hq | hq
    · cases hq
    dsimp only [mm_ln] at hq
    subst hq
    split at h
    · cases h; exact lv_lneg hx hb hdg (kk ls hL)
    · cases h
  · -- idiv
    rcases hln with hq | hq
    · cases hq
    dsimp only [mm_ln] at hq
    subst hq
    split at h
    · split at h
      · cases h
      · rename_i g; cases h; exact lv_idiv hx hb hdg g (kk ls hL)
    · cases h
  · -- irem
    rcases hln with hq | hq
    · cases hq
    dsimp only [mm_ln] at hq
    subst hq
    split at h
    · split at h
      · cases h
      · rename_i g; cases h; exact lv_irem hx hb hdg g (kk ls hL)
    · cases h
  · -- ldiv
    rcases hln with hq | hq
    · cases hq
    dsimp only [mm_ln] at hq
    subst hq
    split at h
    · split at h
      · cases h
      · rename_i g; cases h; exact lv_ldiv hx hb hdg g (kk ls hL)
    · cases h
  · -- i2l
    rcases hln with hq | hq
    · cases hq
    dsimp only [mm_ln] at hq
    subst hq
    split at h
    · cases h; exact lv_i2l hx hb hdg rfl (kk ls hL)
    · cases h
  · -- l2i
    rcases hln with hq | hq
    · cases hq
    dsimp only [mm_ln] at hq
    subst hq
    split at h
    · cases h; exact lv_l2i hx hb hdg rfl (kk ls hL)
    · cases h
  · -- i2b
    rcases hln with hq | hq
    · cases hq
    dsimp only [mm_ln] at hq
    subst hq
    split at h
    · cases h; exact lv_i2b hx hb hdg rfl (kk ls hL)
    · cases h
  · -- i2c
    rcases hln with hq | hq
    · cases hq
    dsimp only [mm_ln] at hq
    subst hq
    split at h
    · cases h; exact lv_i2c hx hb hdg rfl (kk ls hL)
    · cases h
  · -- lcmp
    rcases hln with hq | hq
    · cases hq
    dsimp only [mm_ln] at hq
    subst hq
    split at h
    · cases h; exact W.lcmp hx hb hdg (kk ls hL)
    · cases h
  · -- dup
    rcases hln with hq | hq
    · cases hq
    dsimp only [mm_ln] at hq
    subst hq
    split at h
    · cases h; exact lv_dup hx hb hdg rfl (kk ls hL)
    · cases h; exact lv_dup hx hb hdg rfl (kk ls hL)
    · cases h
  · -- pop
    rcases hln with hq | hq
    · cases hq
    dsimp only [mm_ln] at hq
    subst hq
    split at h
    · cases h; exact lv_pop hx hb hdg rfl (kk ls hL)
    · cases h; exact lv_pop hx hb hdg rfl (kk ls hL)
    · cases h
  · -- dup2
    rcases hln with hq | hq
    · cases hq
    dsimp only [mm_ln] at hq
    subst hq
    split at h
    · cases h; exact lv_dup2_11 hx hb hdg rfl rfl (kk ls hL)
    · cases h
  · -- goto
    rcases hln with hq | hq
    · cases hq
    dsimp only [mm_ln] at hq
    subst hq
    cases h; exact lv_goto hx hb hdg hok.1 (kk ls hL)
  · -- if
    rename_i cd off
    rcases hln with hq | hq
    · cases hq
    dsimp only [mm_ln] at hq
    subst hq
    unfold mm_br at h
    split at h
    · rename_i x r
      cases h
      have k2 := kk
      cases cd <;> simp only [mm_if] at k2
      · exact lv_if_eq hx hb hdg hok.1 (fun q => by rw [if_pos q] at k2; exact k2 ls hL) (fun q => by rw [if_neg q] at k2; exact k2 ls hL)
      · exact lv_if_ne hx hb hdg hok.1 (fun q => by rw [if_pos q] at k2; exact k2 ls hL) (fun q => by rw [if_neg (fun z => z q)] at k2; exact k2 ls hL)
      · exact lv_if_lt hx hb hdg hok.1 (fun q => by rw [if_pos q] at k2; exact k2 ls hL) (fun q => by rw [if_neg q] at k2; exact k2 ls hL)
      · exact lv_if_ge hx hb hdg hok.1 (fun q => by rw [if_pos q] at k2; exact k2 ls hL) (fun q => by rw [if_neg q] at k2; exact k2 ls hL)
      · exact lv_if_gt hx hb hdg hok.1 (fun q => by rw [if_pos q] at k2; exact k2 ls hL) (fun q => by rw [if_neg q] at k2; exact k2 ls hL)
      · exact lv_if_le hx hb hdg hok.1 (fun q => by rw [if_pos q] at k2; exact k2 ls hL) (fun q => by rw [if_neg q] at k2; exact k2 ls hL)
    · cases h
  · -- icmp
    rename_i cd off
    rcases hln with hq | hq
    · cases hq
    dsimp only [mm_ln] at hq
    subst hq
    unfold mm_bb at h
    split at h
    · rename_i x y r
      cases h
      have k2 := kk
      cases cd <;> simp only [mm_ic] at k2
      · exact lv_icmp_eq hx hb hdg hok.1 (fun q => by rw [if_pos q] at k2; exact k2 ls hL) (fun q => by rw [if_neg q] at k2; exact k2 ls hL)
      · exact lv_icmp_ne hx hb hdg hok.1 (fun q => by rw [if_pos q] at k2; exact k2 ls hL) (fun q => by rw [if_neg (fun z => z q)] at k2; exact k2 ls hL)
      · exact lv_icmp_lt hx hb hdg hok.1 (fun q => by rw [if_pos q] at k2; exact k2 ls hL) (fun q => by rw [if_neg q] at k2; exact k2 ls hL)
      · exact lv_icmp_ge hx hb hdg hok.1 (fun q => by rw [if_pos q] at k2; exact k2 ls hL) (fun q => by rw [if_neg q] at k2; exact k2 ls hL)
      · exact lv_icmp_gt hx hb hdg hok.1 (fun q => by rw [if_pos q] at k2; exact k2 ls hL) (fun q => by rw [if_neg q] at k2; exact k2 ls hL)
      · exact lv_icmp_le hx hb hdg hok.1 (fun q => by rw [if_pos q] at k2; exact k2 ls hL) (fun q => by rw [if_neg q] at k2; exact k2 ls hL)
    · cases h
  · -- ifnull
    rcases hln with hq | hq
    · cases hq
    dsimp only [mm_ln] at hq
    subst hq
    split at h
    · cases h; exact lv_ifnullN hx hb hdg hok.1 (kk ls hL)
    · cases h; exact lv_ifnull hx hb hdg (kk ls hL)
    · cases h
  · -- ifnonnull
    rcases hln with hq | hq
    · cases hq
    dsimp only [mm_ln] at hq
    subst hq
    split at h
    · cases h; exact lv_ifnonnullN hx hb hdg (kk ls hL)
    · cases h; exact lv_ifnonnull hx hb hdg hok.1 (kk ls hL)
    · cases h
  · -- tsw
    rename_i d lo hi os
    split at h
    · rename_i x r
      cases h
      have eL := mm_swl_L (pc := pc) (x := x) (L := L) (r := r) (M := M) (d := d) os.toList lo
      have k3 := kk ls (by rw [eL]; exact hL)
      rw [eL] at k3
      exact mm_snd_sw hx hb hdg hok.1 hok.2.1 hok.2.2 os.toList 0 rfl (by omega) (by simpa using k3)
    · cases h
  · -- getfield
    rcases hln with hq | hq
    · cases hq
    dsimp only [mm_ln] at hq
    subst hq
    split at h
    · rename_i a r
      split at h
      · rename_i v g
        cases h
        obtain ⟨q, h1, h2, h3, h4⟩ := hok
        obtain ⟨g1, g2⟩ := mm_E_fld (cid := cid) (ad := ad) g h2
        obtain ⟨C, T, N⟩ := q
        exact va_get hx hb hts (hcl _ _ _ _ h1) hown hK hP a g1 h1 r2 h3 (hts _ h4) (fun _ z => z) g2 hdg (kk ls hL)
      · cases h
    · cases h
  · -- alen
    rcases hln with hq | hq
    · cases hq
    dsimp only [mm_ln] at hq
    subst hq
    split at h
    · rename_i a r
      split at h
      · rename_i g
        cases h
        exact va_alen hx hb hK hP a ((M.1 a).1 - 100) (mm_E_arr g.2.2 g.1) (mm_tys_at g.1 g.2.1) (by rw [mm_ar_len]) hdg (kk ls hL)
      · cases h
    · cases h
  · cases h
end MMX
