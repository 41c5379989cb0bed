/-! A copied text holds what its model held. -/
theorem txs_copy {s s1 : Nat → Int → Int} {u w : Nat} {T : Int → Int} {b slot so la : Int} (h : TXs s w T b slot so la) (e4 : s1 (u + 4) slot = s (w + 4) slot) (e5 : s1 (u + 5) slot = s (w + 5) slot) : TXs s1 u T b slot so la := by
  unfold TXs at h ⊢
  rw [e4, e5]
  exact h
theorem tx_copy {s s1 : Nat → Int → Int} {u w : Nat} {T : Int → Int} {b : Int} (h : TX s w T b) (hc : CPT s1 s u w) (hv : VT T b) : TX s1 u T b := by
  obtain ⟨c1, c2, c3, c4, c5, c6, c7⟩ := hc
  obtain ⟨a1, a2, a3, a4, a5, a6, a7⟩ := h
  have hn := hv.1
  refine ⟨c5.trans a1, fun k k0 k1 => ?_, fun la l0 l1 => txs_copy (a3 la l0 l1) (c4 la l0 (by omega)).1 (c4 la l0 (by omega)).2, txs_copy a4 (c4 6 (by decide) (by decide)).1 (c4 6 (by decide) (by decide)).2, txs_copy a5 (c4 7 (by decide) (by decide)).1 (c4 7 (by decide) (by decide)).2, c7.trans a6, fun k k0 k1 k2 j j0 j1 => ?_⟩
  · rw [c1 k k0 (by omega), c2 (3 * k) (by omega) (by omega), c2 (3 * k + 1) (by omega) (by omega), c2 (3 * k + 2) (by omega) (by omega)]
    exact a2 k k0 k1
  · obtain ⟨N, n1, n2, n3, _⟩ := (hv.2 k k0 k1).2.2.1 k2
    rw [c3 j (by omega) (by omega)]
    exact a7 k k0 k1 k2 j j0 j1
