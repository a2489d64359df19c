theorem aT_m {w : Cond} (h : w ∈ tables_1) (hg : goodWord w = true) : w ∈ aT := List.mem_filter.mpr ⟨List.mem_append_right _ h, hg⟩
theorem gw_arrayClass : ∀ {a0}, goodWord (Cond.arrayClass a0) = true := rfl
theorem gw_classLink : ∀ {a0 a1 a2}, goodWord (Cond.classLink a0 a1 a2) = true := rfl
theorem gw_code : ∀ {a0 a1 a2 a3}, goodWord (Cond.code a0 a1 a2 a3) = true := rfl
theorem gw_constant : ∀ {a0 a1 a2}, goodWord (Cond.constant a0 a1 a2) = true := rfl
theorem gw_constantLong : ∀ {a0 a1 a2}, goodWord (Cond.constantLong a0 a1 a2) = true := rfl
theorem gw_fieldLink : ∀ {a0 a1 a2 a3 a4}, goodWord (Cond.fieldLink a0 a1 a2 a3 a4) = true := rfl
theorem gw_initialized : ∀ {a0}, goodWord (Cond.initialized a0) = true := rfl
theorem gw_instanceMethod : ∀ {a0}, goodWord (Cond.instanceMethod a0) = true := rfl
theorem gw_instantiable : ∀ {a0 a1}, goodWord (Cond.instantiable a0 a1) = true := rfl
theorem gw_methodLink : ∀ {a0 a1 a2}, goodWord (Cond.methodLink a0 a1 a2) = true := rfl
theorem gw_native : ∀ {a0}, goodWord (Cond.native a0) = true := rfl
theorem gw_selects : ∀ {a0 a1 a2}, goodWord (Cond.selects a0 a1 a2) = true := rfl
theorem gw_static : ∀ {a0}, goodWord (Cond.static a0) = true := rfl
theorem gw_lays : ∀ {a0 a1 a2 a3}, goodWord (Cond.lays a0 a1 a2 a3) = true := rfl
theorem gw_laysFinal : ∀ {a0 a1 a2 a3}, goodWord (Cond.laysFinal a0 a1 a2 a3) = true := rfl
