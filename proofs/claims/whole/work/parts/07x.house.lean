/-! HOUSE: the reference's state after a reading is the old one with a new top -/
theorem EndU.top {u u1 : MS} {w : Int} (h : EndU u u1 w) (f z : Int32) : topU u (uI (uI u1 4 f) 2 z) = uI (uI u1 4 f) 2 z :=
  topU_self (fun k k1 k2 k3 k4 k40 => by
    have e := h.2.2.2.1 k k1 k3 k4 (by omega)
    show upd (upd u1.1 4 f) 2 z k = u.1 k
    unfold upd
    rw [if_neg k2, if_neg k4, e]) (fun k _ hk => h.2.2.2.2 k (by omega))
theorem EndU.vals {u u1 : MS} {w : Int} (h : EndU u u1 w) (f z : Int) : (uI (uI u1 4 (iI f)) 2 (iI z)).1 1 = iI 0 ∧ (uI (uI u1 4 (iI f)) 2 (iI z)).1 2 = iI z ∧ (uI (uI u1 4 (iI f)) 2 (iI z)).1 3 = iI w ∧ (uI (uI u1 4 (iI f)) 2 (iI z)).1 4 = iI f := by
  obtain ⟨h1, h2, h3, -, -⟩ := h
  refine ⟨?_, ?_, ?_, ?_⟩
  · simpa [uI, upd] using h2
  · simp [uI, upd]
  · simpa [uI, upd] using h1
  · simp [uI, upd]
