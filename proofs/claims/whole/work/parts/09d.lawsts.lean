/-! THE LAW: the answers alike, as its cases want them -/
def lwK (G : wG) (L : Mem) : Prop := LOK G.2.2.1 L ∧ LitOK G.2.2.2 L ∧ DigOK G.2.2.2 L ∧ EmpOK G.2.2.2 L
theorem lw_feed {G : wG} {L : Mem} {x0 : Nat} (k : lwK G L) : St_feed G L x0 (SimB G.2.2.1 G.2.2.2 L x0) := fun M u sz nc nr a1 a2 a3 a4 a5 h => ⟨4000, st_feed k.1 h a1 a2 a3 a4 a5⟩
theorem lw_end {G : wG} {L : Mem} {x0 : Nat} (k : lwK G L) : St_end G L x0 (SimB G.2.2.1 G.2.2.2 L x0) := fun M u sz nc nr a1 h => ⟨4000, st_end k.1 h a1⟩
theorem lw_thing {G : wG} {L : Mem} {x0 : Nat} (k : lwK G L) : St_thing G L x0 (SimB G.2.2.1 G.2.2.2 L x0) := fun M u sz nc nr h => ⟨4000, st_thing k.2.1 k.1 k.2.2.1 k.2.2.2 h⟩
theorem lw_house {G : wG} {L : Mem} {x0 : Nat} (k : lwK G L) : St_house G L x0 (SimB G.2.2.1 G.2.2.2 L x0) := fun M u sz nc nr h => ⟨4000, st_house k.2.1 k.1 k.2.2.1 k.2.2.2 h⟩
theorem lw_courier {G : wG} {L : Mem} {x0 : Nat} (k : lwK G L) : St_courier G L x0 (SimB G.2.2.1 G.2.2.2 L x0) := fun M u sz nc nr h => by
  obtain ⟨big, r, M1, sz1, u1, e1, e2, hs⟩ := st_courier k.2.1 k.1 k.2.2.1 k.2.2.2 h
  exact ⟨4000, r, M1, sz1, u1, big, e1, e2, hs⟩
theorem lw_loan {G : wG} {L : Mem} {x0 : Nat} (k : lwK G L) : St_loan G L x0 (SimB G.2.2.1 G.2.2.2 L x0) := fun M u sz nc nr a1 h => ⟨4000, st_loan k.2.1 k.1 k.2.2.2 h a1⟩
theorem lw_report {G : wG} {L : Mem} {x0 : Nat} (k : lwK G L) : St_report G L x0 (SimB G.2.2.1 G.2.2.2 L x0) := fun M u sz nc nr a1 a2 h => by
  obtain ⟨big, r, M1, sz1, u1, e1, e2, hs⟩ := st_report k.2.1 k.1 k.2.2.1 k.2.2.2 h a1 a2
  exact ⟨4000, r, M1, sz1, u1, big, e1, e2, hs⟩
theorem lw_appraise {G : wG} {L : Mem} {x0 : Nat} (k : lwK G L) : St_appraise G L x0 (SimB G.2.2.1 G.2.2.2 L x0) := fun M u sz nc nr a1 a2 a3 h => ⟨4000, st_appraise k.1 h a1 a2 a3⟩
theorem lw_cancel {G : wG} {L : Mem} {x0 : Nat} (k : lwK G L) : St_cancel G L x0 (SimB G.2.2.1 G.2.2.2 L x0) := fun M u sz nc nr a1 h => ⟨4000, st_cancel k.1 h a1⟩
theorem lw_place {G : wG} {L : Mem} {x0 : Nat} (k : lwK G L) : St_place G L x0 (SimB G.2.2.1 G.2.2.2 L x0) := fun M u sz nc nr h => by
  obtain ⟨r, e1, e2⟩ := st_place h
  exact ⟨4000, r, e1, e2, h⟩
theorem lw_fault {G : wG} {L : Mem} {x0 : Nat} (k : lwK G L) : St_fault G L x0 (SimB G.2.2.1 G.2.2.2 L x0) := fun M u sz nc nr h => by
  obtain ⟨r, e1, e2⟩ := st_fault h
  exact ⟨4000, r, e1, e2, h⟩
theorem lw_count {G : wG} {L : Mem} {x0 : Nat} (k : lwK G L) : St_count G L x0 (SimB G.2.2.1 G.2.2.2 L x0) := fun M u sz nc nr a1 h => ⟨4000, st_count k.1 h a1⟩
theorem lw_value {G : wG} {L : Mem} {x0 : Nat} (k : lwK G L) : St_value G L x0 (SimB G.2.2.1 G.2.2.2 L x0) := fun M u sz nc nr a1 a2 h => ⟨4000, st_value k.1 h a1 a2⟩
theorem lw_together {G : wG} {L : Mem} {x0 : Nat} (k : lwK G L) : St_together G L x0 (SimB G.2.2.1 G.2.2.2 L x0) := fun M u sz nc nr a1 a2 h => ⟨4000, st_together k.1 h a1 a2⟩
theorem lw_where {G : wG} {L : Mem} {x0 : Nat} (k : lwK G L) : St_where G L x0 (SimB G.2.2.1 G.2.2.2 L x0) := fun M u sz nc nr a1 a2 h => ⟨4000, st_where k.1 h a1 a2⟩
theorem lw_free {G : wG} {L : Mem} {x0 : Nat} (k : lwK G L) : St_free G L x0 (SimB G.2.2.1 G.2.2.2 L x0) := fun M u sz nc nr a1 a2 a3 h => ⟨4000, st_free k.1 h a1 a2 a3⟩
theorem lw_stage {G : wG} {L : Mem} {x0 : Nat} (k : lwK G L) : St_stage G L x0 (SimB G.2.2.1 G.2.2.2 L x0) := fun M u sz nc nr a1 a2 h => ⟨4000, st_stage k.1 h a1 a2⟩
theorem lw_parcels {G : wG} {L : Mem} {x0 : Nat} (k : lwK G L) : St_parcels G L x0 (SimB G.2.2.1 G.2.2.2 L x0) := fun M u sz nc nr a1 h => ⟨4000, st_parcels k.1 h a1⟩
theorem lw_parcel {G : wG} {L : Mem} {x0 : Nat} (k : lwK G L) : St_parcel G L x0 (SimB G.2.2.1 G.2.2.2 L x0) := fun M u sz nc nr a1 a2 h => ⟨4000, st_parcel k.1 h a1 a2⟩
theorem lw_weight {G : wG} {L : Mem} {x0 : Nat} (k : lwK G L) : St_weight G L x0 (SimB G.2.2.1 G.2.2.2 L x0) := fun M u sz nc nr a1 a2 h => ⟨4000, st_weight k.1 h a1 a2⟩
theorem lw_guard {G : wG} {L : Mem} {x0 : Nat} (k : lwK G L) : St_guard G L x0 (SimB G.2.2.1 G.2.2.2 L x0) := fun M u sz nc nr a1 a2 a3 h => ⟨4000, st_guard k.1 h a1 a2 a3⟩
theorem lw_busy {G : wG} {L : Mem} {x0 : Nat} (k : lwK G L) : St_busy G L x0 (SimB G.2.2.1 G.2.2.2 L x0) := fun M u sz nc nr a1 h => ⟨4000, st_busy k.1 h a1⟩
theorem lw_with {G : wG} {L : Mem} {x0 : Nat} (k : lwK G L) : St_with G L x0 (SimB G.2.2.1 G.2.2.2 L x0) := fun M u sz nc nr a1 a2 h => ⟨4000, st_with k.1 h a1 a2⟩
theorem lw_ready {G : wG} {L : Mem} {x0 : Nat} (k : lwK G L) : St_ready G L x0 (SimB G.2.2.1 G.2.2.2 L x0) := fun M u sz nc nr a1 a2 a3 h => ⟨4000, st_ready k.1 h a1 a2 a3⟩
theorem lw_cost {G : wG} {L : Mem} {x0 : Nat} (k : lwK G L) : St_cost G L x0 (SimB G.2.2.1 G.2.2.2 L x0) := fun M u sz nc nr a1 a2 h => ⟨4000, st_cost k.1 h a1 a2⟩
theorem lw_premium {G : wG} {L : Mem} {x0 : Nat} (k : lwK G L) : St_premium G L x0 (SimB G.2.2.1 G.2.2.2 L x0) := fun M u sz nc nr a1 a2 a3 h => ⟨4000, st_premium k.1 h a1 a2 a3⟩
theorem lw_dearest {G : wG} {L : Mem} {x0 : Nat} (k : lwK G L) : St_dearest G L x0 (SimB G.2.2.1 G.2.2.2 L x0) := fun M u sz nc nr a1 h => ⟨4000, st_dearest k.1 h a1⟩
theorem lw_harms {G : wG} {L : Mem} {x0 : Nat} (k : lwK G L) : St_harms G L x0 (SimB G.2.2.1 G.2.2.2 L x0) := fun M u sz nc nr a1 a2 h => ⟨4000, st_harms k.1 h a1 a2⟩
theorem lw_note {G : wG} {L : Mem} {x0 : Nat} (k : lwK G L) : St_note G L x0 (SimB G.2.2.1 G.2.2.2 L x0) := fun M u sz nc nr a1 a2 a3 h => ⟨4000, st_note k.1 k.2.1 h a1 a2 a3⟩
theorem lw_damage {G : wG} {L : Mem} {x0 : Nat} (k : lwK G L) : St_damage G L x0 (SimB G.2.2.1 G.2.2.2 L x0) := fun M u sz nc nr a1 a2 h => ⟨4000, st_damage k.1 h a1 a2⟩
theorem lw_bearer {G : wG} {L : Mem} {x0 : Nat} (k : lwK G L) : St_bearer G L x0 (SimB G.2.2.1 G.2.2.2 L x0) := fun M u sz nc nr a1 a2 h => ⟨4000, st_bearer k.1 h a1 a2⟩
theorem lw_charge {G : wG} {L : Mem} {x0 : Nat} (k : lwK G L) : St_charge G L x0 (SimB G.2.2.1 G.2.2.2 L x0) := fun M u sz nc nr a1 h => ⟨4000, st_charge k.1 h a1⟩
theorem lw_home {G : wG} {L : Mem} {x0 : Nat} (k : lwK G L) : St_home G L x0 (SimB G.2.2.1 G.2.2.2 L x0) := fun M u sz nc nr h => by
  obtain ⟨r, e1, e2⟩ := st_home h
  exact ⟨4000, r, e1, e2, h⟩
theorem lw_letter {G : wG} {L : Mem} {x0 : Nat} (k : lwK G L) : St_letter G L x0 (SimB G.2.2.1 G.2.2.2 L x0) := fun M u sz nc nr a1 a2 a3 h => ⟨4000, st_letter k.1 k.2.1 h a1 a2 a3⟩
theorem lw_status {G : wG} {L : Mem} {x0 : Nat} (k : lwK G L) : St_status G L x0 (SimB G.2.2.1 G.2.2.2 L x0) := fun M u sz nc nr h => by
  obtain ⟨r, e1, e2⟩ := st_status h
  exact ⟨4000, r, e1, e2, h⟩
