theorem lw_stub : True := trivial
def Rel (σ τ : St) : Prop := σ.1 0 0 = τ.1 0 0
theorem rel_0 : Rel (sr_I shC nmC igC) σM0 := sorry
theorem op_begin {σ τ : St} (hR : Rel σ τ) (x1 : Int32) : ∃ r σ' τ', f_X7_begin 0 x1 σ = (r, σ') ∧ f_X8_begin 0 x1 τ = some (r, τ') ∧ Rel σ' τ' := sorry
theorem op_setLimit {σ τ : St} (hR : Rel σ τ) (x1 : Int32) : ∃ r σ' τ', f_X7_setLimit 0 x1 σ = (r, σ') ∧ f_X8_setLimit 0 x1 τ = some (r, τ') ∧ Rel σ' τ' := sorry
theorem op_freeze {σ τ : St} (hR : Rel σ τ) (x1 : Int32) (x2 : Int32) : ∃ r σ' τ', f_X7_freeze 0 x1 x2 σ = some (r, σ') ∧ f_X8_freeze 0 x1 x2 τ = some (r, τ') ∧ Rel σ' τ' := sorry
theorem op_thaw {σ τ : St} (hR : Rel σ τ) : ∃ r σ' τ', f_X7_thaw 0 σ = (r, σ') ∧ f_X8_thaw 0 τ = some (r, τ') ∧ Rel σ' τ' := sorry
theorem op_addChange {σ τ : St} (hR : Rel σ τ) (x1 : Bool) : ∃ r σ' τ', f_X7_addChange 0 x1 σ = some (r, σ') ∧ f_X8_addChange 0 x1 τ = some (r, τ') ∧ Rel σ' τ' := sorry
theorem op_addStage {σ τ : St} (hR : Rel σ τ) (x1 : Int32) (x2 : Int32) (x3 : Int32) (x4 : Int32) : ∃ r σ' τ', f_X7_addStage 0 x1 x2 x3 x4 σ = some (r, σ') ∧ f_X8_addStage 0 x1 x2 x3 x4 τ = some (r, τ') ∧ Rel σ' τ' := sorry
theorem op_putAfter {σ τ : St} (hR : Rel σ τ) (x1 : Int32) (x2 : Int32) : ∃ r σ' τ', f_X7_putAfter 0 x1 x2 σ = some (r, σ') ∧ f_X8_putAfter 0 x1 x2 τ = some (r, τ') ∧ Rel σ' τ' := sorry
theorem op_changes {σ τ : St} (hR : Rel σ τ) : ∃ r, f_X7_changes 0 σ = r ∧ f_X8_changes 0 τ = r ∧ Rel σ τ := sorry
theorem op_stage {σ τ : St} (hR : Rel σ τ) (x1 : Int32) (x2 : Int32) (x3 : Int32) : ∃ r, f_X7_stage 0 x1 x2 x3 σ = some r ∧ f_X8_stage 0 x1 x2 x3 τ = some r ∧ Rel σ τ := sorry
theorem op_append {σ τ : St} (hR : Rel σ τ) (x1 : Int32) : ∃ r σ' τ', f_X7_append 0 x1 σ = some (r, σ') ∧ f_X8_append 0 x1 τ = some (r, τ') ∧ Rel σ' τ' := sorry
theorem op_clearText {σ τ : St} (hR : Rel σ τ) : ∃ r σ' τ', f_X7_clearText 0 σ = (r, σ') ∧ f_X8_clearText 0 τ = (r, τ') ∧ Rel σ' τ' := sorry
theorem op_faultPosition {σ τ : St} (hR : Rel σ τ) : ∃ r σ' τ', f_X7_faultPosition 0 σ = some (r, σ') ∧ f_X8_faultPosition 0 τ = some (r, τ') ∧ Rel σ' τ' := sorry
theorem op_read {σ τ : St} (hR : Rel σ τ) (x1 : Int32) : ∃ r σ' τ', f_X7_read 0 x1 σ = some (r, σ') ∧ f_X8_read 0 x1 τ = some (r, τ') ∧ Rel σ' τ' := sorry
theorem op_start {σ τ : St} (hR : Rel σ τ) (x1 : Int32) : ∃ r σ' τ', f_X7_start 0 x1 σ = some (r, σ') ∧ f_X8_start 0 x1 τ = some (r, τ') ∧ Rel σ' τ' := sorry
theorem op_hold {σ τ : St} (hR : Rel σ τ) (x1 : Int32) : ∃ r σ' τ', f_X7_hold 0 x1 σ = some (r, σ') ∧ f_X8_hold 0 x1 τ = some (r, τ') ∧ Rel σ' τ' := sorry
theorem op_resume {σ τ : St} (hR : Rel σ τ) (x1 : Int32) : ∃ r σ' τ', f_X7_resume 0 x1 σ = some (r, σ') ∧ f_X8_resume 0 x1 τ = some (r, τ') ∧ Rel σ' τ' := sorry
theorem op_turnBack {σ τ : St} (hR : Rel σ τ) (x1 : Int32) : ∃ r σ' τ', f_X7_turnBack 0 x1 σ = some (r, σ') ∧ f_X8_turnBack 0 x1 τ = some (r, τ') ∧ Rel σ' τ' := sorry
theorem op_report {σ τ : St} (hR : Rel σ τ) (x1 : Int32) (x2 : Int32) (x3 : Int32) : ∃ r σ' τ', f_X7_report 0 x1 x2 x3 σ = some (r, σ') ∧ f_X8_report 0 x1 x2 x3 τ = some (r, τ') ∧ Rel σ' τ' := sorry
theorem op_pass {σ τ : St} (hR : Rel σ τ) (x1 : Int32) : ∃ r σ' τ', f_X7_pass 0 x1 σ = some (r, σ') ∧ f_X8_pass 0 x1 τ = some (r, τ') ∧ Rel σ' τ' := sorry
theorem op_time {σ τ : St} (hR : Rel σ τ) : ∃ r, f_X7_time 0 σ = r ∧ f_X8_time 0 τ = r ∧ Rel σ τ := sorry
theorem op_change {σ τ : St} (hR : Rel σ τ) (x1 : Int32) (x2 : Int32) : ∃ r, f_X7_change 0 x1 x2 σ = some r ∧ f_X8_change 0 x1 x2 τ = some r ∧ Rel σ τ := sorry
theorem op_probes {σ τ : St} (hR : Rel σ τ) (x1 : Int32) (x2 : Int32) : ∃ r, f_X7_probes 0 x1 x2 σ = some r ∧ f_X8_probes 0 x1 x2 τ = some r ∧ Rel σ τ := sorry
theorem op_chance {σ τ : St} (hR : Rel σ τ) (x1 : Int32) (x2 : Bool) : ∃ r τ', f_X7_chance 0 x1 x2 σ = some r ∧ f_X8_chance 0 x1 x2 τ = some (r, τ') ∧ Rel σ τ' := sorry
theorem op_has {σ τ : St} (hR : Rel σ τ) (x1 : Int32) : ∃ r, f_X7_has 0 x1 σ = some r ∧ f_X8_has 0 x1 τ = some r ∧ Rel σ τ := sorry
theorem op_isFrozen {σ τ : St} (hR : Rel σ τ) (x1 : Int32) : ∃ r, f_X7_isFrozen 0 x1 σ = some r ∧ f_X8_isFrozen 0 x1 τ = some r ∧ Rel σ τ := sorry
theorem op_forecast {σ τ : St} (hR : Rel σ τ) (x1 : Int32) : ∃ r σ' τ', f_X7_forecast 0 x1 σ = some (r, σ') ∧ f_X8_forecast 0 x1 τ = some (r, τ') ∧ Rel σ' τ' := sorry
theorem op_entries {σ τ : St} (hR : Rel σ τ) : ∃ r, f_X7_entries 0 σ = r ∧ f_X8_entries 0 τ = r ∧ Rel σ τ := sorry
theorem op_entry {σ τ : St} (hR : Rel σ τ) (x1 : Int32) (x2 : Int32) : ∃ r, f_X7_entry 0 x1 x2 σ = some r ∧ f_X8_entry 0 x1 x2 τ = some r ∧ Rel σ τ := sorry
theorem op_count {σ τ : St} (hR : Rel σ τ) (x1 : Int32) (x2 : Int32) : ∃ r, f_X7_count 0 x1 x2 σ = some r ∧ f_X8_count 0 x1 x2 τ = some r ∧ Rel σ τ := sorry
theorem op_save {σ τ : St} (hR : Rel σ τ) (x1 : Int32) : ∃ r σ' τ', f_X7_save 0 x1 σ = some (r, σ') ∧ f_X8_save 0 x1 τ = some (r, τ') ∧ Rel σ' τ' := sorry
theorem op_restore {σ τ : St} (hR : Rel σ τ) (x1 : Int32) : ∃ r σ' τ', f_X7_restore 0 x1 σ = some (r, σ') ∧ f_X8_restore 0 x1 τ = some (r, τ') ∧ Rel σ' τ' := sorry
theorem op_checksum {σ τ : St} (hR : Rel σ τ) : ∃ r τ', f_X7_checksum 0 σ = some r ∧ f_X8_checksum 0 τ = some (r, τ') ∧ Rel σ τ' := sorry
