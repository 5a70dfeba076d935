set_option maxRecDepth 100000 in
theorem mm_e_Op_goesOn : mm_ok2 mm_m_Op_goesOn := ⟨rfl, by decide +kernel, by decide +kernel, by decide +kernel, by decide +kernel⟩
set_option maxRecDepth 100000 in
theorem mm_e_Op_jumps : mm_ok2 mm_m_Op_jumps := ⟨rfl, by decide +kernel, by decide +kernel, by decide +kernel, by decide +kernel⟩
set_option maxRecDepth 100000 in
theorem mm_e_Op_mayThrow : mm_ok2 mm_m_Op_mayThrow := ⟨rfl, by decide +kernel, by decide +kernel, by decide +kernel, by decide +kernel⟩
set_option maxRecDepth 100000 in
theorem mm_e_Va_of : mm_ok2 mm_m_Va_of := ⟨rfl, by decide +kernel, by decide +kernel, by decide +kernel, by decide +kernel⟩
set_option maxRecDepth 100000 in
theorem mm_e_Va_ofPlace : mm_ok2 mm_m_Va_ofPlace := ⟨rfl, by decide +kernel, by decide +kernel, by decide +kernel, by decide +kernel⟩
set_option maxRecDepth 100000 in
theorem mm_e_Va_kind : mm_ok2 mm_m_Va_kind := ⟨rfl, by decide +kernel, by decide +kernel, by decide +kernel, by decide +kernel⟩
set_option maxRecDepth 100000 in
theorem mm_e_Va_classOf : mm_ok2 mm_m_Va_classOf := ⟨rfl, by decide +kernel, by decide +kernel, by decide +kernel, by decide +kernel⟩
set_option maxRecDepth 100000 in
theorem mm_e_Va_may : mm_ok2 mm_m_Va_may := ⟨rfl, by decide +kernel, by decide +kernel, by decide +kernel, by decide +kernel⟩
set_option maxRecDepth 100000 in
theorem mm_e_Va_marks : mm_ok2 mm_m_Va_marks := ⟨rfl, by decide +kernel, by decide +kernel, by decide +kernel, by decide +kernel⟩
set_option maxRecDepth 100000 in
theorem mm_e_Va_origin : mm_ok2 mm_m_Va_origin := ⟨rfl, by decide +kernel, by decide +kernel, by decide +kernel, by decide +kernel⟩
set_option maxRecDepth 100000 in
theorem mm_e_Va_withOrigin : mm_ok2 mm_m_Va_withOrigin := ⟨rfl, by decide +kernel, by decide +kernel, by decide +kernel, by decide +kernel⟩
set_option maxRecDepth 100000 in
theorem mm_e_Va_withKind : mm_ok2 mm_m_Va_withKind := ⟨rfl, by decide +kernel, by decide +kernel, by decide +kernel, by decide +kernel⟩
set_option maxRecDepth 100000 in
theorem mm_e_Va_notNull : mm_ok2 mm_m_Va_notNull := ⟨rfl, by decide +kernel, by decide +kernel, by decide +kernel, by decide +kernel⟩
set_option maxRecDepth 100000 in
theorem mm_e_Va_join : mm_ok2 mm_m_Va_join := ⟨rfl, by decide +kernel, by decide +kernel, by decide +kernel, by decide +kernel⟩
set_option maxRecDepth 100000 in
theorem mm_e_Va_part : mm_ok2 mm_m_Va_part := ⟨rfl, by decide +kernel, by decide +kernel, by decide +kernel, by decide +kernel⟩
set_option maxRecDepth 100000 in
theorem mm_e_Pl_init : mm_ok2 mm_m_Pl_init := ⟨rfl, by decide +kernel, by decide +kernel, by decide +kernel, by decide +kernel⟩
set_option maxRecDepth 100000 in
theorem mm_e_Pl_become : mm_ok2 mm_m_Pl_become := ⟨rfl, by decide +kernel, by decide +kernel, by decide +kernel, by decide +kernel⟩
set_option maxRecDepth 100000 in
theorem mm_e_Me_init : mm_ok2 mm_m_Me_init := ⟨rfl, by decide +kernel, by decide +kernel, by decide +kernel, by decide +kernel⟩
set_option maxRecDepth 100000 in
theorem mm_e_Me_addParam : mm_ok2 mm_m_Me_addParam := ⟨rfl, by decide +kernel, by decide +kernel, by decide +kernel, by decide +kernel⟩
set_option maxRecDepth 100000 in
theorem mm_e_Me_addInstruction : mm_ok2 mm_m_Me_addInstruction := ⟨rfl, by decide +kernel, by decide +kernel, by decide +kernel, by decide +kernel⟩
set_option maxRecDepth 100000 in
theorem mm_e_Me_addGuard : mm_ok2 mm_m_Me_addGuard := ⟨rfl, by decide +kernel, by decide +kernel, by decide +kernel, by decide +kernel⟩
set_option maxRecDepth 100000 in
theorem mm_e_Me_clear : mm_ok2 mm_m_Me_clear := ⟨rfl, by decide +kernel, by decide +kernel, by decide +kernel, by decide +kernel⟩
set_option maxRecDepth 100000 in
theorem mm_e_Me_isBuiltIn : mm_ok2 mm_m_Me_isBuiltIn := ⟨rfl, by decide +kernel, by decide +kernel, by decide +kernel, by decide +kernel⟩
set_option maxRecDepth 100000 in
theorem mm_e_Me_gives : mm_ok2 mm_m_Me_gives := ⟨rfl, by decide +kernel, by decide +kernel, by decide +kernel, by decide +kernel⟩
set_option maxRecDepth 100000 in
theorem mm_e_Me_takes : mm_ok2 mm_m_Me_takes := ⟨rfl, by decide +kernel, by decide +kernel, by decide +kernel, by decide +kernel⟩
set_option maxRecDepth 100000 in
theorem mm_e_Me_firstParam : mm_ok2 mm_m_Me_firstParam := ⟨rfl, by decide +kernel, by decide +kernel, by decide +kernel, by decide +kernel⟩
set_option maxRecDepth 100000 in
theorem mm_e_Me_caughtAt : mm_ok2 mm_m_Me_caughtAt := ⟨rfl, by decide +kernel, by decide +kernel, by decide +kernel, by decide +kernel⟩
set_option maxRecDepth 100000 in
theorem mm_e_St_init : mm_ok2 mm_m_St_init := ⟨rfl, by decide +kernel, by decide +kernel, by decide +kernel, by decide +kernel⟩
set_option maxRecDepth 100000 in
theorem mm_e_St_makeClass : mm_ok2 mm_m_St_makeClass := ⟨rfl, by decide +kernel, by decide +kernel, by decide +kernel, by decide +kernel⟩
set_option maxRecDepth 100000 in
theorem mm_e_St_makeField : mm_ok2 mm_m_St_makeField := ⟨rfl, by decide +kernel, by decide +kernel, by decide +kernel, by decide +kernel⟩
set_option maxRecDepth 100000 in
theorem mm_e_St_makeMethod : mm_ok2 mm_m_St_makeMethod := ⟨rfl, by decide +kernel, by decide +kernel, by decide +kernel, by decide +kernel⟩
set_option maxRecDepth 100000 in
theorem mm_e_St_isClass : mm_ok2 mm_m_St_isClass := ⟨rfl, by decide +kernel, by decide +kernel, by decide +kernel, by decide +kernel⟩
set_option maxRecDepth 100000 in
theorem mm_e_St_isMethod : mm_ok2 mm_m_St_isMethod := ⟨rfl, by decide +kernel, by decide +kernel, by decide +kernel, by decide +kernel⟩
set_option maxRecDepth 100000 in
theorem mm_e_St_isPlace : mm_ok2 mm_m_St_isPlace := ⟨rfl, by decide +kernel, by decide +kernel, by decide +kernel, by decide +kernel⟩
set_option maxRecDepth 100000 in
theorem mm_e_St_isArgument : mm_ok2 mm_m_St_isArgument := ⟨rfl, by decide +kernel, by decide +kernel, by decide +kernel, by decide +kernel⟩
set_option maxRecDepth 100000 in
theorem mm_e_St_below : mm_ok2 mm_m_St_below := ⟨rfl, by decide +kernel, by decide +kernel, by decide +kernel, by decide +kernel⟩
set_option maxRecDepth 100000 in
theorem mm_e_St_common : mm_ok2 mm_m_St_common := ⟨rfl, by decide +kernel, by decide +kernel, by decide +kernel, by decide +kernel⟩
set_option maxRecDepth 100000 in
theorem mm_e_St_own : mm_ok2 mm_m_St_own := ⟨rfl, by decide +kernel, by decide +kernel, by decide +kernel, by decide +kernel⟩
set_option maxRecDepth 100000 in
theorem mm_e_St_nearest : mm_ok2 mm_m_St_nearest := ⟨rfl, by decide +kernel, by decide +kernel, by decide +kernel, by decide +kernel⟩
set_option maxRecDepth 100000 in
theorem mm_e_St_pops : mm_ok2 mm_m_St_pops := ⟨rfl, by decide +kernel, by decide +kernel, by decide +kernel, by decide +kernel⟩
set_option maxRecDepth 100000 in
theorem mm_e_St_breaksStack : mm_ok2 mm_m_St_breaksStack := ⟨rfl, by decide +kernel, by decide +kernel, by decide +kernel, by decide +kernel⟩
set_option maxRecDepth 100000 in
theorem mm_e_St_canStart : mm_ok2 mm_m_St_canStart := ⟨rfl, by decide +kernel, by decide +kernel, by decide +kernel, by decide +kernel⟩
set_option maxRecDepth 100000 in
theorem mm_e_Fr_init : mm_ok2 mm_m_Fr_init := ⟨rfl, by decide +kernel, by decide +kernel, by decide +kernel, by decide +kernel⟩
set_option maxRecDepth 100000 in
theorem mm_e_Fr_become : mm_ok2 mm_m_Fr_become := ⟨rfl, by decide +kernel, by decide +kernel, by decide +kernel, by decide +kernel⟩
set_option maxRecDepth 100000 in
theorem mm_e_Fr_push : mm_ok2 mm_m_Fr_push := ⟨rfl, by decide +kernel, by decide +kernel, by decide +kernel, by decide +kernel⟩
set_option maxRecDepth 100000 in
theorem mm_e_Fr_pop : mm_ok2 mm_m_Fr_pop := ⟨rfl, by decide +kernel, by decide +kernel, by decide +kernel, by decide +kernel⟩
set_option maxRecDepth 100000 in
theorem mm_e_Fr_under : mm_ok2 mm_m_Fr_under := ⟨rfl, by decide +kernel, by decide +kernel, by decide +kernel, by decide +kernel⟩
set_option maxRecDepth 100000 in
theorem mm_e_Fr_store : mm_ok2 mm_m_Fr_store := ⟨rfl, by decide +kernel, by decide +kernel, by decide +kernel, by decide +kernel⟩
set_option maxRecDepth 100000 in
theorem mm_e_Fr_leaveSite : mm_ok2 mm_m_Fr_leaveSite := ⟨rfl, by decide +kernel, by decide +kernel, by decide +kernel, by decide +kernel⟩
set_option maxRecDepth 100000 in
theorem mm_e_Fr_join : mm_ok2 mm_m_Fr_join := ⟨rfl, by decide +kernel, by decide +kernel, by decide +kernel, by decide +kernel⟩
set_option maxRecDepth 100000 in
theorem mm_e_Ru_init : mm_ok2 mm_m_Ru_init := ⟨rfl, by decide +kernel, by decide +kernel, by decide +kernel, by decide +kernel⟩
set_option maxRecDepth 100000 in
theorem mm_e_Ru_wayError : mm_ok2 mm_m_Ru_wayError := ⟨rfl, by decide +kernel, by decide +kernel, by decide +kernel, by decide +kernel⟩
set_option maxRecDepth 100000 in
theorem mm_e_Ru_leadsAway : mm_ok2 mm_m_Ru_leadsAway := ⟨rfl, by decide +kernel, by decide +kernel, by decide +kernel, by decide +kernel⟩
set_option maxRecDepth 100000 in
theorem mm_e_Ru_valueError : mm_ok2 mm_m_Ru_valueError := ⟨rfl, by decide +kernel, by decide +kernel, by decide +kernel, by decide +kernel⟩
set_option maxRecDepth 100000 in
theorem mm_e_Ru_first : mm_ok2 mm_m_Ru_first := ⟨rfl, by decide +kernel, by decide +kernel, by decide +kernel, by decide +kernel⟩
set_option maxRecDepth 100000 in
theorem mm_e_Ru_intError : mm_ok2 mm_m_Ru_intError := ⟨rfl, by decide +kernel, by decide +kernel, by decide +kernel, by decide +kernel⟩
set_option maxRecDepth 100000 in
theorem mm_e_Ru_isReference : mm_ok2 mm_m_Ru_isReference := ⟨rfl, by decide +kernel, by decide +kernel, by decide +kernel, by decide +kernel⟩
set_option maxRecDepth 100000 in
theorem mm_e_Ru_referenceError : mm_ok2 mm_m_Ru_referenceError := ⟨rfl, by decide +kernel, by decide +kernel, by decide +kernel, by decide +kernel⟩
set_option maxRecDepth 100000 in
theorem mm_e_Ru_holderError : mm_ok2 mm_m_Ru_holderError := ⟨rfl, by decide +kernel, by decide +kernel, by decide +kernel, by decide +kernel⟩
set_option maxRecDepth 100000 in
theorem mm_e_Ru_comingError : mm_ok2 mm_m_Ru_comingError := ⟨rfl, by decide +kernel, by decide +kernel, by decide +kernel, by decide +kernel⟩
set_option maxRecDepth 100000 in
theorem mm_e_Ru_callError : mm_ok2 mm_m_Ru_callError := ⟨rfl, by decide +kernel, by decide +kernel, by decide +kernel, by decide +kernel⟩
set_option maxRecDepth 100000 in
theorem mm_e_Ru_builtError : mm_ok2 mm_m_Ru_builtError := ⟨rfl, by decide +kernel, by decide +kernel, by decide +kernel, by decide +kernel⟩
set_option maxRecDepth 100000 in
theorem mm_e_Ru_isFitBuiltIn : mm_ok2 mm_m_Ru_isFitBuiltIn := ⟨rfl, by decide +kernel, by decide +kernel, by decide +kernel, by decide +kernel⟩
set_option maxRecDepth 100000 in
theorem mm_e_Ru_fits : mm_ok2 mm_m_Ru_fits := ⟨rfl, by decide +kernel, by decide +kernel, by decide +kernel, by decide +kernel⟩
set_option maxRecDepth 100000 in
theorem mm_e_Ru_fitsWithMarks : mm_ok2 mm_m_Ru_fitsWithMarks := ⟨rfl, by decide +kernel, by decide +kernel, by decide +kernel, by decide +kernel⟩
set_option maxRecDepth 100000 in
theorem mm_e_Ru_mayReplace : mm_ok2 mm_m_Ru_mayReplace := ⟨rfl, by decide +kernel, by decide +kernel, by decide +kernel, by decide +kernel⟩
set_option maxRecDepth 100000 in
theorem mm_e_Lo_init : mm_ok2 mm_m_Lo_init := ⟨rfl, by decide +kernel, by decide +kernel, by decide +kernel, by decide +kernel⟩
set_option maxRecDepth 100000 in
theorem mm_e_Lo_frameAt : mm_ok2 mm_m_Lo_frameAt := ⟨rfl, by decide +kernel, by decide +kernel, by decide +kernel, by decide +kernel⟩
set_option maxRecDepth 100000 in
theorem mm_e_Lo_through : mm_ok2 mm_m_Lo_through := ⟨rfl, by decide +kernel, by decide +kernel, by decide +kernel, by decide +kernel⟩
set_option maxRecDepth 100000 in
theorem mm_e_Lo_departs : mm_ok2 mm_m_Lo_departs := ⟨rfl, by decide +kernel, by decide +kernel, by decide +kernel, by decide +kernel⟩
set_option maxRecDepth 100000 in
theorem mm_e_Lo_begin : mm_ok2 mm_m_Lo_begin := ⟨rfl, by decide +kernel, by decide +kernel, by decide +kernel, by decide +kernel⟩
set_option maxRecDepth 100000 in
theorem mm_e_Lo_settle : mm_ok2 mm_m_Lo_settle := ⟨rfl, by decide +kernel, by decide +kernel, by decide +kernel, by decide +kernel⟩
set_option maxRecDepth 100000 in
theorem mm_e_Lo_leave : mm_ok2 mm_m_Lo_leave := ⟨rfl, by decide +kernel, by decide +kernel, by decide +kernel, by decide +kernel⟩
set_option maxRecDepth 100000 in
theorem mm_e_Lo_beginCatch : mm_ok2 mm_m_Lo_beginCatch := ⟨rfl, by decide +kernel, by decide +kernel, by decide +kernel, by decide +kernel⟩
set_option maxRecDepth 100000 in
theorem mm_e_Lo_arrive : mm_ok2 mm_m_Lo_arrive := ⟨rfl, by decide +kernel, by decide +kernel, by decide +kernel, by decide +kernel⟩
set_option maxRecDepth 100000 in
theorem mm_e_Lo_applyToValues : mm_ok2 mm_m_Lo_applyToValues := ⟨rfl, by decide +kernel, by decide +kernel, by decide +kernel, by decide +kernel⟩
set_option maxRecDepth 100000 in
theorem mm_e_Lo_applyToStock : mm_ok2 mm_m_Lo_applyToStock := ⟨rfl, by decide +kernel, by decide +kernel, by decide +kernel, by decide +kernel⟩
set_option maxRecDepth 100000 in
theorem mm_e_Lo_get : mm_ok2 mm_m_Lo_get := ⟨rfl, by decide +kernel, by decide +kernel, by decide +kernel, by decide +kernel⟩
set_option maxRecDepth 100000 in
theorem mm_e_Lo_put : mm_ok2 mm_m_Lo_put := ⟨rfl, by decide +kernel, by decide +kernel, by decide +kernel, by decide +kernel⟩
set_option maxRecDepth 100000 in
theorem mm_e_Lo_call : mm_ok2 mm_m_Lo_call := ⟨rfl, by decide +kernel, by decide +kernel, by decide +kernel, by decide +kernel⟩
set_option maxRecDepth 100000 in
theorem mm_e_Lo_isNull : mm_ok2 mm_m_Lo_isNull := ⟨rfl, by decide +kernel, by decide +kernel, by decide +kernel, by decide +kernel⟩
set_option maxRecDepth 100000 in
theorem mm_e_Ac_init : mm_ok2 mm_m_Ac_init := ⟨rfl, by decide +kernel, by decide +kernel, by decide +kernel, by decide +kernel⟩
set_option maxRecDepth 100000 in
theorem mm_e_Ac_begin : mm_ok2 mm_m_Ac_begin := ⟨rfl, by decide +kernel, by decide +kernel, by decide +kernel, by decide +kernel⟩
set_option maxRecDepth 100000 in
theorem mm_e_Ac_push : mm_ok2 mm_m_Ac_push := ⟨rfl, by decide +kernel, by decide +kernel, by decide +kernel, by decide +kernel⟩
set_option maxRecDepth 100000 in
theorem mm_e_Ac_pop : mm_ok2 mm_m_Ac_pop := ⟨rfl, by decide +kernel, by decide +kernel, by decide +kernel, by decide +kernel⟩
set_option maxRecDepth 100000 in
theorem mm_e_Ma_init : mm_ok2 mm_m_Ma_init := ⟨rfl, by decide +kernel, by decide +kernel, by decide +kernel, by decide +kernel⟩
set_option maxRecDepth 100000 in
theorem mm_e_Ma_addInput : mm_ok2 mm_m_Ma_addInput := ⟨rfl, by decide +kernel, by decide +kernel, by decide +kernel, by decide +kernel⟩
set_option maxRecDepth 100000 in
theorem mm_e_Ma_start : mm_ok2 mm_m_Ma_start := ⟨rfl, by decide +kernel, by decide +kernel, by decide +kernel, by decide +kernel⟩
set_option maxRecDepth 100000 in
theorem mm_e_Ma_enter : mm_ok2 mm_m_Ma_enter := ⟨rfl, by decide +kernel, by decide +kernel, by decide +kernel, by decide +kernel⟩
set_option maxRecDepth 100000 in
theorem mm_e_Ma_perform : mm_ok2 mm_m_Ma_perform := ⟨rfl, by decide +kernel, by decide +kernel, by decide +kernel, by decide +kernel⟩
set_option maxRecDepth 100000 in
theorem mm_e_Ma_performOnObjects : mm_ok2 mm_m_Ma_performOnObjects := ⟨rfl, by decide +kernel, by decide +kernel, by decide +kernel, by decide +kernel⟩
set_option maxRecDepth 100000 in
theorem mm_e_Ma_pushAndGoOn : mm_ok2 mm_m_Ma_pushAndGoOn := ⟨rfl, by decide +kernel, by decide +kernel, by decide +kernel, by decide +kernel⟩
set_option maxRecDepth 100000 in
theorem mm_e_Ma_isObject : mm_ok2 mm_m_Ma_isObject := ⟨rfl, by decide +kernel, by decide +kernel, by decide +kernel, by decide +kernel⟩
set_option maxRecDepth 100000 in
theorem mm_e_Ma_makeObject : mm_ok2 mm_m_Ma_makeObject := ⟨rfl, by decide +kernel, by decide +kernel, by decide +kernel, by decide +kernel⟩
set_option maxRecDepth 100000 in
theorem mm_e_Ma_get : mm_ok2 mm_m_Ma_get := ⟨rfl, by decide +kernel, by decide +kernel, by decide +kernel, by decide +kernel⟩
set_option maxRecDepth 100000 in
theorem mm_e_Ma_put : mm_ok2 mm_m_Ma_put := ⟨rfl, by decide +kernel, by decide +kernel, by decide +kernel, by decide +kernel⟩
set_option maxRecDepth 100000 in
theorem mm_e_Ma_cast : mm_ok2 mm_m_Ma_cast := ⟨rfl, by decide +kernel, by decide +kernel, by decide +kernel, by decide +kernel⟩
set_option maxRecDepth 100000 in
theorem mm_e_Ma_call : mm_ok2 mm_m_Ma_call := ⟨rfl, by decide +kernel, by decide +kernel, by decide +kernel, by decide +kernel⟩
set_option maxRecDepth 100000 in
theorem mm_e_Ma_callBuiltIn : mm_ok2 mm_m_Ma_callBuiltIn := ⟨rfl, by decide +kernel, by decide +kernel, by decide +kernel, by decide +kernel⟩
set_option maxRecDepth 100000 in
theorem mm_e_Ma_give : mm_ok2 mm_m_Ma_give := ⟨rfl, by decide +kernel, by decide +kernel, by decide +kernel, by decide +kernel⟩
set_option maxRecDepth 100000 in
theorem mm_e_Ma_classOf : mm_ok2 mm_m_Ma_classOf := ⟨rfl, by decide +kernel, by decide +kernel, by decide +kernel, by decide +kernel⟩
set_option maxRecDepth 100000 in
theorem mm_e_Ma_raise : mm_ok2 mm_m_Ma_raise := ⟨rfl, by decide +kernel, by decide +kernel, by decide +kernel, by decide +kernel⟩
set_option maxRecDepth 100000 in
theorem mm_e_Ga_init : mm_ok2 mm_m_Ga_init := ⟨rfl, by decide +kernel, by decide +kernel, by decide +kernel, by decide +kernel⟩
set_option maxRecDepth 100000 in
theorem mm_e_Ga_cls : mm_ok2 mm_m_Ga_cls := ⟨rfl, by decide +kernel, by decide +kernel, by decide +kernel, by decide +kernel⟩
set_option maxRecDepth 100000 in
theorem mm_e_Ga_field : mm_ok2 mm_m_Ga_field := ⟨rfl, by decide +kernel, by decide +kernel, by decide +kernel, by decide +kernel⟩
set_option maxRecDepth 100000 in
theorem mm_e_Ga_method : mm_ok2 mm_m_Ga_method := ⟨rfl, by decide +kernel, by decide +kernel, by decide +kernel, by decide +kernel⟩
set_option maxRecDepth 100000 in
theorem mm_e_Ga_param : mm_ok2 mm_m_Ga_param := ⟨rfl, by decide +kernel, by decide +kernel, by decide +kernel, by decide +kernel⟩
set_option maxRecDepth 100000 in
theorem mm_e_Ga_result : mm_ok2 mm_m_Ga_result := ⟨rfl, by decide +kernel, by decide +kernel, by decide +kernel, by decide +kernel⟩
set_option maxRecDepth 100000 in
theorem mm_e_Ga_builtIn : mm_ok2 mm_m_Ga_builtIn := ⟨rfl, by decide +kernel, by decide +kernel, by decide +kernel, by decide +kernel⟩
set_option maxRecDepth 100000 in
theorem mm_e_Ga_add : mm_ok2 mm_m_Ga_add := ⟨rfl, by decide +kernel, by decide +kernel, by decide +kernel, by decide +kernel⟩
set_option maxRecDepth 100000 in
theorem mm_e_Ga_guard : mm_ok2 mm_m_Ga_guard := ⟨rfl, by decide +kernel, by decide +kernel, by decide +kernel, by decide +kernel⟩
set_option maxRecDepth 100000 in
theorem mm_e_Ga_wipe : mm_ok2 mm_m_Ga_wipe := ⟨rfl, by decide +kernel, by decide +kernel, by decide +kernel, by decide +kernel⟩
set_option maxRecDepth 100000 in
theorem mm_e_Ga_check : mm_ok2 mm_m_Ga_check := ⟨rfl, by decide +kernel, by decide +kernel, by decide +kernel, by decide +kernel⟩
set_option maxRecDepth 100000 in
theorem mm_e_Ga_load : mm_ok2 mm_m_Ga_load := ⟨rfl, by decide +kernel, by decide +kernel, by decide +kernel, by decide +kernel⟩
set_option maxRecDepth 100000 in
theorem mm_e_Ga_isLoaded : mm_ok2 mm_m_Ga_isLoaded := ⟨rfl, by decide +kernel, by decide +kernel, by decide +kernel, by decide +kernel⟩
set_option maxRecDepth 100000 in
theorem mm_e_Ga_place : mm_ok2 mm_m_Ga_place := ⟨rfl, by decide +kernel, by decide +kernel, by decide +kernel, by decide +kernel⟩
set_option maxRecDepth 100000 in
theorem mm_e_Ga_frame : mm_ok2 mm_m_Ga_frame := ⟨rfl, by decide +kernel, by decide +kernel, by decide +kernel, by decide +kernel⟩
set_option maxRecDepth 100000 in
theorem mm_e_Ga_input : mm_ok2 mm_m_Ga_input := ⟨rfl, by decide +kernel, by decide +kernel, by decide +kernel, by decide +kernel⟩
set_option maxRecDepth 100000 in
theorem mm_e_Ga_run : mm_ok2 mm_m_Ga_run := ⟨rfl, by decide +kernel, by decide +kernel, by decide +kernel, by decide +kernel⟩
set_option maxRecDepth 100000 in
theorem mm_e_Ga_value : mm_ok2 mm_m_Ga_value := ⟨rfl, by decide +kernel, by decide +kernel, by decide +kernel, by decide +kernel⟩
set_option maxRecDepth 100000 in
theorem mm_e_Ga_output : mm_ok2 mm_m_Ga_output := ⟨rfl, by decide +kernel, by decide +kernel, by decide +kernel, by decide +kernel⟩
set_option maxRecDepth 100000 in
theorem mm_e_Ga_told : mm_ok2 mm_m_Ga_told := ⟨rfl, by decide +kernel, by decide +kernel, by decide +kernel, by decide +kernel⟩
set_option maxRecDepth 100000 in
theorem mm_e_Ga_placeOf : mm_ok2 mm_m_Ga_placeOf := ⟨rfl, by decide +kernel, by decide +kernel, by decide +kernel, by decide +kernel⟩
set_option maxRecDepth 100000 in
theorem mm_e_Ga_within : mm_ok2 mm_m_Ga_within := ⟨rfl, by decide +kernel, by decide +kernel, by decide +kernel, by decide +kernel⟩
set_option maxRecDepth 100000 in
theorem mm_e_Mo_init : mm_ok2 mm_m_Mo_init := ⟨rfl, by decide +kernel, by decide +kernel, by decide +kernel, by decide +kernel⟩
set_option maxRecDepth 100000 in
theorem mm_e_Mo_within : mm_ok2 mm_m_Mo_within := ⟨rfl, by decide +kernel, by decide +kernel, by decide +kernel, by decide +kernel⟩
set_option maxRecDepth 100000 in
theorem mm_e_Mo_isClass : mm_ok2 mm_m_Mo_isClass := ⟨rfl, by decide +kernel, by decide +kernel, by decide +kernel, by decide +kernel⟩
set_option maxRecDepth 100000 in
theorem mm_e_Mo_isMethod : mm_ok2 mm_m_Mo_isMethod := ⟨rfl, by decide +kernel, by decide +kernel, by decide +kernel, by decide +kernel⟩
set_option maxRecDepth 100000 in
theorem mm_e_Mo_frozen : mm_ok2 mm_m_Mo_frozen := ⟨rfl, by decide +kernel, by decide +kernel, by decide +kernel, by decide +kernel⟩
set_option maxRecDepth 100000 in
theorem mm_e_Mo_isBelow : mm_ok2 mm_m_Mo_isBelow := ⟨rfl, by decide +kernel, by decide +kernel, by decide +kernel, by decide +kernel⟩
set_option maxRecDepth 100000 in
theorem mm_e_Mo_says : mm_ok2 mm_m_Mo_says := ⟨rfl, by decide +kernel, by decide +kernel, by decide +kernel, by decide +kernel⟩
set_option maxRecDepth 100000 in
theorem mm_e_Mo_cls : mm_ok2 mm_m_Mo_cls := ⟨rfl, by decide +kernel, by decide +kernel, by decide +kernel, by decide +kernel⟩
set_option maxRecDepth 100000 in
theorem mm_e_Mo_field : mm_ok2 mm_m_Mo_field := ⟨rfl, by decide +kernel, by decide +kernel, by decide +kernel, by decide +kernel⟩
set_option maxRecDepth 100000 in
theorem mm_e_Mo_own : mm_ok2 mm_m_Mo_own := ⟨rfl, by decide +kernel, by decide +kernel, by decide +kernel, by decide +kernel⟩
set_option maxRecDepth 100000 in
theorem mm_e_Mo_find : mm_ok2 mm_m_Mo_find := ⟨rfl, by decide +kernel, by decide +kernel, by decide +kernel, by decide +kernel⟩
set_option maxRecDepth 100000 in
theorem mm_e_Mo_method : mm_ok2 mm_m_Mo_method := ⟨rfl, by decide +kernel, by decide +kernel, by decide +kernel, by decide +kernel⟩
set_option maxRecDepth 100000 in
theorem mm_e_Mo_param : mm_ok2 mm_m_Mo_param := ⟨rfl, by decide +kernel, by decide +kernel, by decide +kernel, by decide +kernel⟩
set_option maxRecDepth 100000 in
theorem mm_e_Mo_say : mm_ok2 mm_m_Mo_say := ⟨rfl, by decide +kernel, by decide +kernel, by decide +kernel, by decide +kernel⟩
set_option maxRecDepth 100000 in
theorem mm_e_Mo_result : mm_ok2 mm_m_Mo_result := ⟨rfl, by decide +kernel, by decide +kernel, by decide +kernel, by decide +kernel⟩
set_option maxRecDepth 100000 in
theorem mm_e_Mo_builtIn : mm_ok2 mm_m_Mo_builtIn := ⟨rfl, by decide +kernel, by decide +kernel, by decide +kernel, by decide +kernel⟩
set_option maxRecDepth 100000 in
theorem mm_e_Mo_add : mm_ok2 mm_m_Mo_add := ⟨rfl, by decide +kernel, by decide +kernel, by decide +kernel, by decide +kernel⟩
set_option maxRecDepth 100000 in
theorem mm_e_Mo_guard : mm_ok2 mm_m_Mo_guard := ⟨rfl, by decide +kernel, by decide +kernel, by decide +kernel, by decide +kernel⟩
set_option maxRecDepth 100000 in
theorem mm_e_Mo_wipe : mm_ok2 mm_m_Mo_wipe := ⟨rfl, by decide +kernel, by decide +kernel, by decide +kernel, by decide +kernel⟩
set_option maxRecDepth 100000 in
theorem mm_e_Mo_guardOf : mm_ok2 mm_m_Mo_guardOf := ⟨rfl, by decide +kernel, by decide +kernel, by decide +kernel, by decide +kernel⟩
set_option maxRecDepth 100000 in
theorem mm_e_Mo_pops : mm_ok2 mm_m_Mo_pops := ⟨rfl, by decide +kernel, by decide +kernel, by decide +kernel, by decide +kernel⟩
set_option maxRecDepth 100000 in
theorem mm_e_Mo_pushes : mm_ok2 mm_m_Mo_pushes := ⟨rfl, by decide +kernel, by decide +kernel, by decide +kernel, by decide +kernel⟩
set_option maxRecDepth 100000 in
theorem mm_e_Mo_wayOf : mm_ok2 mm_m_Mo_wayOf := ⟨rfl, by decide +kernel, by decide +kernel, by decide +kernel, by decide +kernel⟩
set_option maxRecDepth 100000 in
theorem mm_e_Mo_isShort : mm_ok2 mm_m_Mo_isShort := ⟨rfl, by decide +kernel, by decide +kernel, by decide +kernel, by decide +kernel⟩
set_option maxRecDepth 100000 in
theorem mm_e_Mo_set : mm_ok2 mm_m_Mo_set := ⟨rfl, by decide +kernel, by decide +kernel, by decide +kernel, by decide +kernel⟩
set_option maxRecDepth 100000 in
theorem mm_e_Mo_push : mm_ok2 mm_m_Mo_push := ⟨rfl, by decide +kernel, by decide +kernel, by decide +kernel, by decide +kernel⟩
set_option maxRecDepth 100000 in
theorem mm_e_Mo_pushSaid : mm_ok2 mm_m_Mo_pushSaid := ⟨rfl, by decide +kernel, by decide +kernel, by decide +kernel, by decide +kernel⟩
set_option maxRecDepth 100000 in
theorem mm_e_Mo_start : mm_ok2 mm_m_Mo_start := ⟨rfl, by decide +kernel, by decide +kernel, by decide +kernel, by decide +kernel⟩
set_option maxRecDepth 100000 in
theorem mm_e_Mo_take : mm_ok2 mm_m_Mo_take := ⟨rfl, by decide +kernel, by decide +kernel, by decide +kernel, by decide +kernel⟩
set_option maxRecDepth 100000 in
theorem mm_e_Mo_keep : mm_ok2 mm_m_Mo_keep := ⟨rfl, by decide +kernel, by decide +kernel, by decide +kernel, by decide +kernel⟩
set_option maxRecDepth 100000 in
theorem mm_e_Mo_come : mm_ok2 mm_m_Mo_come := ⟨rfl, by decide +kernel, by decide +kernel, by decide +kernel, by decide +kernel⟩
set_option maxRecDepth 100000 in
theorem mm_e_Mo_join : mm_ok2 mm_m_Mo_join := ⟨rfl, by decide +kernel, by decide +kernel, by decide +kernel, by decide +kernel⟩
set_option maxRecDepth 100000 in
theorem mm_e_Mo_settle : mm_ok2 mm_m_Mo_settle := ⟨rfl, by decide +kernel, by decide +kernel, by decide +kernel, by decide +kernel⟩
set_option maxRecDepth 100000 in
theorem mm_e_Mo_look : mm_ok2 mm_m_Mo_look := ⟨rfl, by decide +kernel, by decide +kernel, by decide +kernel, by decide +kernel⟩
set_option maxRecDepth 100000 in
theorem mm_e_Mo_flow : mm_ok2 mm_m_Mo_flow := ⟨rfl, by decide +kernel, by decide +kernel, by decide +kernel, by decide +kernel⟩
set_option maxRecDepth 100000 in
theorem mm_e_Mo_effect : mm_ok2 mm_m_Mo_effect := ⟨rfl, by decide +kernel, by decide +kernel, by decide +kernel, by decide +kernel⟩
set_option maxRecDepth 100000 in
theorem mm_e_Mo_wrongFor : mm_ok2 mm_m_Mo_wrongFor := ⟨rfl, by decide +kernel, by decide +kernel, by decide +kernel, by decide +kernel⟩
set_option maxRecDepth 100000 in
theorem mm_e_Mo_isRef : mm_ok2 mm_m_Mo_isRef := ⟨rfl, by decide +kernel, by decide +kernel, by decide +kernel, by decide +kernel⟩
set_option maxRecDepth 100000 in
theorem mm_e_Mo_wrongObject : mm_ok2 mm_m_Mo_wrongObject := ⟨rfl, by decide +kernel, by decide +kernel, by decide +kernel, by decide +kernel⟩
set_option maxRecDepth 100000 in
theorem mm_e_Mo_least : mm_ok2 mm_m_Mo_least := ⟨rfl, by decide +kernel, by decide +kernel, by decide +kernel, by decide +kernel⟩
set_option maxRecDepth 100000 in
theorem mm_e_Mo_errorAt : mm_ok2 mm_m_Mo_errorAt := ⟨rfl, by decide +kernel, by decide +kernel, by decide +kernel, by decide +kernel⟩
set_option maxRecDepth 100000 in
theorem mm_e_Mo_wrongCall : mm_ok2 mm_m_Mo_wrongCall := ⟨rfl, by decide +kernel, by decide +kernel, by decide +kernel, by decide +kernel⟩
set_option maxRecDepth 100000 in
theorem mm_e_Mo_lacks : mm_ok2 mm_m_Mo_lacks := ⟨rfl, by decide +kernel, by decide +kernel, by decide +kernel, by decide +kernel⟩
set_option maxRecDepth 100000 in
theorem mm_e_Mo_isOutside : mm_ok2 mm_m_Mo_isOutside := ⟨rfl, by decide +kernel, by decide +kernel, by decide +kernel, by decide +kernel⟩
set_option maxRecDepth 100000 in
theorem mm_e_Mo_inspect : mm_ok2 mm_m_Mo_inspect := ⟨rfl, by decide +kernel, by decide +kernel, by decide +kernel, by decide +kernel⟩
set_option maxRecDepth 100000 in
theorem mm_e_Mo_check : mm_ok2 mm_m_Mo_check := ⟨rfl, by decide +kernel, by decide +kernel, by decide +kernel, by decide +kernel⟩
set_option maxRecDepth 100000 in
theorem mm_e_Mo_parts : mm_ok2 mm_m_Mo_parts := ⟨rfl, by decide +kernel, by decide +kernel, by decide +kernel, by decide +kernel⟩
set_option maxRecDepth 100000 in
theorem mm_e_Mo_varies : mm_ok2 mm_m_Mo_varies := ⟨rfl, by decide +kernel, by decide +kernel, by decide +kernel, by decide +kernel⟩
set_option maxRecDepth 100000 in
theorem mm_e_Mo_load : mm_ok2 mm_m_Mo_load := ⟨rfl, by decide +kernel, by decide +kernel, by decide +kernel, by decide +kernel⟩
set_option maxRecDepth 100000 in
theorem mm_e_Mo_isLoaded : mm_ok2 mm_m_Mo_isLoaded := ⟨rfl, by decide +kernel, by decide +kernel, by decide +kernel, by decide +kernel⟩
set_option maxRecDepth 100000 in
theorem mm_e_Mo_place : mm_ok2 mm_m_Mo_place := ⟨rfl, by decide +kernel, by decide +kernel, by decide +kernel, by decide +kernel⟩
set_option maxRecDepth 100000 in
theorem mm_e_Mo_frame : mm_ok2 mm_m_Mo_frame := ⟨rfl, by decide +kernel, by decide +kernel, by decide +kernel, by decide +kernel⟩
set_option maxRecDepth 100000 in
theorem mm_e_Mo_input : mm_ok2 mm_m_Mo_input := ⟨rfl, by decide +kernel, by decide +kernel, by decide +kernel, by decide +kernel⟩
set_option maxRecDepth 100000 in
theorem mm_e_Mo_run : mm_ok2 mm_m_Mo_run := ⟨rfl, by decide +kernel, by decide +kernel, by decide +kernel, by decide +kernel⟩
set_option maxRecDepth 100000 in
theorem mm_e_Mo_enter : mm_ok2 mm_m_Mo_enter := ⟨rfl, by decide +kernel, by decide +kernel, by decide +kernel, by decide +kernel⟩
set_option maxRecDepth 100000 in
theorem mm_e_Mo_pull : mm_ok2 mm_m_Mo_pull := ⟨rfl, by decide +kernel, by decide +kernel, by decide +kernel, by decide +kernel⟩
set_option maxRecDepth 100000 in
theorem mm_e_Mo_lay : mm_ok2 mm_m_Mo_lay := ⟨rfl, by decide +kernel, by decide +kernel, by decide +kernel, by decide +kernel⟩
set_option maxRecDepth 100000 in
theorem mm_e_Mo_step : mm_ok2 mm_m_Mo_step := ⟨rfl, by decide +kernel, by decide +kernel, by decide +kernel, by decide +kernel⟩
set_option maxRecDepth 100000 in
theorem mm_e_Mo_make : mm_ok2 mm_m_Mo_make := ⟨rfl, by decide +kernel, by decide +kernel, by decide +kernel, by decide +kernel⟩
set_option maxRecDepth 100000 in
theorem mm_e_Mo_call : mm_ok2 mm_m_Mo_call := ⟨rfl, by decide +kernel, by decide +kernel, by decide +kernel, by decide +kernel⟩
set_option maxRecDepth 100000 in
theorem mm_e_Mo_outside : mm_ok2 mm_m_Mo_outside := ⟨rfl, by decide +kernel, by decide +kernel, by decide +kernel, by decide +kernel⟩
set_option maxRecDepth 100000 in
theorem mm_e_Mo_give : mm_ok2 mm_m_Mo_give := ⟨rfl, by decide +kernel, by decide +kernel, by decide +kernel, by decide +kernel⟩
set_option maxRecDepth 100000 in
theorem mm_e_Mo_raise : mm_ok2 mm_m_Mo_raise := ⟨rfl, by decide +kernel, by decide +kernel, by decide +kernel, by decide +kernel⟩
set_option maxRecDepth 100000 in
theorem mm_e_Mo_value : mm_ok2 mm_m_Mo_value := ⟨rfl, by decide +kernel, by decide +kernel, by decide +kernel, by decide +kernel⟩
set_option maxRecDepth 100000 in
theorem mm_e_Mo_output : mm_ok2 mm_m_Mo_output := ⟨rfl, by decide +kernel, by decide +kernel, by decide +kernel, by decide +kernel⟩
set_option maxRecDepth 100000 in
theorem mm_e_Mo_told : mm_ok2 mm_m_Mo_told := ⟨rfl, by decide +kernel, by decide +kernel, by decide +kernel, by decide +kernel⟩
theorem mm_ms_1_0 : ∀ M ∈ [mm_m_Op_goesOn, mm_m_Op_jumps, mm_m_Op_mayThrow, mm_m_Va_of, mm_m_Va_ofPlace, mm_m_Va_kind, mm_m_Va_classOf, mm_m_Va_may, mm_m_Va_marks, mm_m_Va_origin, mm_m_Va_withOrigin, mm_m_Va_withKind, mm_m_Va_notNull, mm_m_Va_join, mm_m_Va_part, mm_m_Pl_init], ∀ e ∈ M.2.2.2.2.2.2, mm_ok1 M e = true := List.forall_mem_cons.mpr ⟨mm_d_Op_goesOn, List.forall_mem_cons.mpr ⟨mm_d_Op_jumps, List.forall_mem_cons.mpr ⟨mm_d_Op_mayThrow, List.forall_mem_cons.mpr ⟨mm_d_Va_of, List.forall_mem_cons.mpr ⟨mm_d_Va_ofPlace, List.forall_mem_cons.mpr ⟨mm_d_Va_kind, List.forall_mem_cons.mpr ⟨mm_d_Va_classOf, List.forall_mem_cons.mpr ⟨mm_d_Va_may, List.forall_mem_cons.mpr ⟨mm_d_Va_marks, List.forall_mem_cons.mpr ⟨mm_d_Va_origin, List.forall_mem_cons.mpr ⟨mm_d_Va_withOrigin, List.forall_mem_cons.mpr ⟨mm_d_Va_withKind, List.forall_mem_cons.mpr ⟨mm_d_Va_notNull, List.forall_mem_cons.mpr ⟨mm_d_Va_join, List.forall_mem_cons.mpr ⟨mm_d_Va_part, List.forall_mem_cons.mpr ⟨mm_d_Pl_init, fun _ h => absurd h List.not_mem_nil⟩⟩⟩⟩⟩⟩⟩⟩⟩⟩⟩⟩⟩⟩⟩⟩
theorem mm_ms_1_1 : ∀ M ∈ [mm_m_Pl_become, mm_m_Me_init, mm_m_Me_addParam, mm_m_Me_addInstruction, mm_m_Me_addGuard, mm_m_Me_clear, mm_m_Me_isBuiltIn, mm_m_Me_gives, mm_m_Me_takes, mm_m_Me_firstParam, mm_m_Me_caughtAt, mm_m_St_init, mm_m_St_makeClass, mm_m_St_makeField, mm_m_St_makeMethod, mm_m_St_isClass], ∀ e ∈ M.2.2.2.2.2.2, mm_ok1 M e = true := List.forall_mem_cons.mpr ⟨mm_d_Pl_become, List.forall_mem_cons.mpr ⟨mm_d_Me_init, List.forall_mem_cons.mpr ⟨mm_d_Me_addParam, List.forall_mem_cons.mpr ⟨mm_d_Me_addInstruction, List.forall_mem_cons.mpr ⟨mm_d_Me_addGuard, List.forall_mem_cons.mpr ⟨mm_d_Me_clear, List.forall_mem_cons.mpr ⟨mm_d_Me_isBuiltIn, List.forall_mem_cons.mpr ⟨mm_d_Me_gives, List.forall_mem_cons.mpr ⟨mm_d_Me_takes, List.forall_mem_cons.mpr ⟨mm_d_Me_firstParam, List.forall_mem_cons.mpr ⟨mm_d_Me_caughtAt, List.forall_mem_cons.mpr ⟨mm_d_St_init, List.forall_mem_cons.mpr ⟨mm_d_St_makeClass, List.forall_mem_cons.mpr ⟨mm_d_St_makeField, List.forall_mem_cons.mpr ⟨mm_d_St_makeMethod, List.forall_mem_cons.mpr ⟨mm_d_St_isClass, fun _ h => absurd h List.not_mem_nil⟩⟩⟩⟩⟩⟩⟩⟩⟩⟩⟩⟩⟩⟩⟩⟩
theorem mm_ms_1_2 : ∀ M ∈ [mm_m_St_isMethod, mm_m_St_isPlace, mm_m_St_isArgument, mm_m_St_below, mm_m_St_common, mm_m_St_own, mm_m_St_nearest, mm_m_St_pops, mm_m_St_breaksStack, mm_m_St_canStart, mm_m_Fr_init, mm_m_Fr_become, mm_m_Fr_push, mm_m_Fr_pop, mm_m_Fr_under, mm_m_Fr_store], ∀ e ∈ M.2.2.2.2.2.2, mm_ok1 M e = true := List.forall_mem_cons.mpr ⟨mm_d_St_isMethod, List.forall_mem_cons.mpr ⟨mm_d_St_isPlace, List.forall_mem_cons.mpr ⟨mm_d_St_isArgument, List.forall_mem_cons.mpr ⟨mm_d_St_below, List.forall_mem_cons.mpr ⟨mm_d_St_common, List.forall_mem_cons.mpr ⟨mm_d_St_own, List.forall_mem_cons.mpr ⟨mm_d_St_nearest, List.forall_mem_cons.mpr ⟨mm_d_St_pops, List.forall_mem_cons.mpr ⟨mm_d_St_breaksStack, List.forall_mem_cons.mpr ⟨mm_d_St_canStart, List.forall_mem_cons.mpr ⟨mm_d_Fr_init, List.forall_mem_cons.mpr ⟨mm_d_Fr_become, List.forall_mem_cons.mpr ⟨mm_d_Fr_push, List.forall_mem_cons.mpr ⟨mm_d_Fr_pop, List.forall_mem_cons.mpr ⟨mm_d_Fr_under, List.forall_mem_cons.mpr ⟨mm_d_Fr_store, fun _ h => absurd h List.not_mem_nil⟩⟩⟩⟩⟩⟩⟩⟩⟩⟩⟩⟩⟩⟩⟩⟩
theorem mm_ms_1_3 : ∀ M ∈ [mm_m_Fr_leaveSite, mm_m_Fr_join, mm_m_Ru_init, mm_m_Ru_wayError, mm_m_Ru_leadsAway, mm_m_Ru_valueError, mm_m_Ru_first, mm_m_Ru_intError, mm_m_Ru_isReference, mm_m_Ru_referenceError, mm_m_Ru_holderError, mm_m_Ru_comingError, mm_m_Ru_callError, mm_m_Ru_builtError, mm_m_Ru_isFitBuiltIn, mm_m_Ru_fits], ∀ e ∈ M.2.2.2.2.2.2, mm_ok1 M e = true := List.forall_mem_cons.mpr ⟨mm_d_Fr_leaveSite, List.forall_mem_cons.mpr ⟨mm_d_Fr_join, List.forall_mem_cons.mpr ⟨mm_d_Ru_init, List.forall_mem_cons.mpr ⟨mm_d_Ru_wayError, List.forall_mem_cons.mpr ⟨mm_d_Ru_leadsAway, List.forall_mem_cons.mpr ⟨mm_d_Ru_valueError, List.forall_mem_cons.mpr ⟨mm_d_Ru_first, List.forall_mem_cons.mpr ⟨mm_d_Ru_intError, List.forall_mem_cons.mpr ⟨mm_d_Ru_isReference, List.forall_mem_cons.mpr ⟨mm_d_Ru_referenceError, List.forall_mem_cons.mpr ⟨mm_d_Ru_holderError, List.forall_mem_cons.mpr ⟨mm_d_Ru_comingError, List.forall_mem_cons.mpr ⟨mm_d_Ru_callError, List.forall_mem_cons.mpr ⟨mm_d_Ru_builtError, List.forall_mem_cons.mpr ⟨mm_d_Ru_isFitBuiltIn, List.forall_mem_cons.mpr ⟨mm_d_Ru_fits, fun _ h => absurd h List.not_mem_nil⟩⟩⟩⟩⟩⟩⟩⟩⟩⟩⟩⟩⟩⟩⟩⟩
theorem mm_ms_1_4 : ∀ M ∈ [mm_m_Ru_fitsWithMarks, mm_m_Ru_mayReplace, mm_m_Lo_init, mm_m_Lo_frameAt, mm_m_Lo_through, mm_m_Lo_departs, mm_m_Lo_begin, mm_m_Lo_settle, mm_m_Lo_leave, mm_m_Lo_beginCatch, mm_m_Lo_arrive, mm_m_Lo_applyToValues, mm_m_Lo_applyToStock, mm_m_Lo_get, mm_m_Lo_put, mm_m_Lo_call], ∀ e ∈ M.2.2.2.2.2.2, mm_ok1 M e = true := List.forall_mem_cons.mpr ⟨mm_d_Ru_fitsWithMarks, List.forall_mem_cons.mpr ⟨mm_d_Ru_mayReplace, List.forall_mem_cons.mpr ⟨mm_d_Lo_init, List.forall_mem_cons.mpr ⟨mm_d_Lo_frameAt, List.forall_mem_cons.mpr ⟨mm_d_Lo_through, List.forall_mem_cons.mpr ⟨mm_d_Lo_departs, List.forall_mem_cons.mpr ⟨mm_d_Lo_begin, List.forall_mem_cons.mpr ⟨mm_d_Lo_settle, List.forall_mem_cons.mpr ⟨mm_d_Lo_leave, List.forall_mem_cons.mpr ⟨mm_d_Lo_beginCatch, List.forall_mem_cons.mpr ⟨mm_d_Lo_arrive, List.forall_mem_cons.mpr ⟨mm_d_Lo_applyToValues, List.forall_mem_cons.mpr ⟨mm_d_Lo_applyToStock, List.forall_mem_cons.mpr ⟨mm_d_Lo_get, List.forall_mem_cons.mpr ⟨mm_d_Lo_put, List.forall_mem_cons.mpr ⟨mm_d_Lo_call, fun _ h => absurd h List.not_mem_nil⟩⟩⟩⟩⟩⟩⟩⟩⟩⟩⟩⟩⟩⟩⟩⟩
theorem mm_ms_1_5 : ∀ M ∈ [mm_m_Lo_isNull, mm_m_Ac_init, mm_m_Ac_begin, mm_m_Ac_push, mm_m_Ac_pop, mm_m_Ma_init, mm_m_Ma_addInput, mm_m_Ma_start, mm_m_Ma_enter, mm_m_Ma_perform, mm_m_Ma_performOnObjects, mm_m_Ma_pushAndGoOn, mm_m_Ma_isObject, mm_m_Ma_makeObject, mm_m_Ma_get, mm_m_Ma_put], ∀ e ∈ M.2.2.2.2.2.2, mm_ok1 M e = true := List.forall_mem_cons.mpr ⟨mm_d_Lo_isNull, List.forall_mem_cons.mpr ⟨mm_d_Ac_init, List.forall_mem_cons.mpr ⟨mm_d_Ac_begin, List.forall_mem_cons.mpr ⟨mm_d_Ac_push, List.forall_mem_cons.mpr ⟨mm_d_Ac_pop, List.forall_mem_cons.mpr ⟨mm_d_Ma_init, List.forall_mem_cons.mpr ⟨mm_d_Ma_addInput, List.forall_mem_cons.mpr ⟨mm_d_Ma_start, List.forall_mem_cons.mpr ⟨mm_d_Ma_enter, List.forall_mem_cons.mpr ⟨mm_d_Ma_perform, List.forall_mem_cons.mpr ⟨mm_d_Ma_performOnObjects, List.forall_mem_cons.mpr ⟨mm_d_Ma_pushAndGoOn, List.forall_mem_cons.mpr ⟨mm_d_Ma_isObject, List.forall_mem_cons.mpr ⟨mm_d_Ma_makeObject, List.forall_mem_cons.mpr ⟨mm_d_Ma_get, List.forall_mem_cons.mpr ⟨mm_d_Ma_put, fun _ h => absurd h List.not_mem_nil⟩⟩⟩⟩⟩⟩⟩⟩⟩⟩⟩⟩⟩⟩⟩⟩
theorem mm_ms_1_6 : ∀ M ∈ [mm_m_Ma_cast, mm_m_Ma_call, mm_m_Ma_callBuiltIn, mm_m_Ma_give, mm_m_Ma_classOf, mm_m_Ma_raise, mm_m_Ga_init, mm_m_Ga_cls, mm_m_Ga_field, mm_m_Ga_method, mm_m_Ga_param, mm_m_Ga_result, mm_m_Ga_builtIn, mm_m_Ga_add, mm_m_Ga_guard, mm_m_Ga_wipe], ∀ e ∈ M.2.2.2.2.2.2, mm_ok1 M e = true := List.forall_mem_cons.mpr ⟨mm_d_Ma_cast, List.forall_mem_cons.mpr ⟨mm_d_Ma_call, List.forall_mem_cons.mpr ⟨mm_d_Ma_callBuiltIn, List.forall_mem_cons.mpr ⟨mm_d_Ma_give, List.forall_mem_cons.mpr ⟨mm_d_Ma_classOf, List.forall_mem_cons.mpr ⟨mm_d_Ma_raise, List.forall_mem_cons.mpr ⟨mm_d_Ga_init, List.forall_mem_cons.mpr ⟨mm_d_Ga_cls, List.forall_mem_cons.mpr ⟨mm_d_Ga_field, List.forall_mem_cons.mpr ⟨mm_d_Ga_method, List.forall_mem_cons.mpr ⟨mm_d_Ga_param, List.forall_mem_cons.mpr ⟨mm_d_Ga_result, List.forall_mem_cons.mpr ⟨mm_d_Ga_builtIn, List.forall_mem_cons.mpr ⟨mm_d_Ga_add, List.forall_mem_cons.mpr ⟨mm_d_Ga_guard, List.forall_mem_cons.mpr ⟨mm_d_Ga_wipe, fun _ h => absurd h List.not_mem_nil⟩⟩⟩⟩⟩⟩⟩⟩⟩⟩⟩⟩⟩⟩⟩⟩
theorem mm_ms_1_7 : ∀ M ∈ [mm_m_Ga_check, mm_m_Ga_load, mm_m_Ga_isLoaded, mm_m_Ga_place, mm_m_Ga_frame, mm_m_Ga_input, mm_m_Ga_run, mm_m_Ga_value, mm_m_Ga_output, mm_m_Ga_told, mm_m_Ga_placeOf, mm_m_Ga_within, mm_m_Mo_init, mm_m_Mo_within, mm_m_Mo_isClass, mm_m_Mo_isMethod], ∀ e ∈ M.2.2.2.2.2.2, mm_ok1 M e = true := List.forall_mem_cons.mpr ⟨mm_d_Ga_check, List.forall_mem_cons.mpr ⟨mm_d_Ga_load, List.forall_mem_cons.mpr ⟨mm_d_Ga_isLoaded, List.forall_mem_cons.mpr ⟨mm_d_Ga_place, List.forall_mem_cons.mpr ⟨mm_d_Ga_frame, List.forall_mem_cons.mpr ⟨mm_d_Ga_input, List.forall_mem_cons.mpr ⟨mm_d_Ga_run, List.forall_mem_cons.mpr ⟨mm_d_Ga_value, List.forall_mem_cons.mpr ⟨mm_d_Ga_output, List.forall_mem_cons.mpr ⟨mm_d_Ga_told, List.forall_mem_cons.mpr ⟨mm_d_Ga_placeOf, List.forall_mem_cons.mpr ⟨mm_d_Ga_within, List.forall_mem_cons.mpr ⟨mm_d_Mo_init, List.forall_mem_cons.mpr ⟨mm_d_Mo_within, List.forall_mem_cons.mpr ⟨mm_d_Mo_isClass, List.forall_mem_cons.mpr ⟨mm_d_Mo_isMethod, fun _ h => absurd h List.not_mem_nil⟩⟩⟩⟩⟩⟩⟩⟩⟩⟩⟩⟩⟩⟩⟩⟩
theorem mm_ms_1_8 : ∀ M ∈ [mm_m_Mo_frozen, mm_m_Mo_isBelow, mm_m_Mo_says, mm_m_Mo_cls, mm_m_Mo_field, mm_m_Mo_own, mm_m_Mo_find, mm_m_Mo_method, mm_m_Mo_param, mm_m_Mo_say, mm_m_Mo_result, mm_m_Mo_builtIn, mm_m_Mo_add, mm_m_Mo_guard, mm_m_Mo_wipe, mm_m_Mo_guardOf], ∀ e ∈ M.2.2.2.2.2.2, mm_ok1 M e = true := List.forall_mem_cons.mpr ⟨mm_d_Mo_frozen, List.forall_mem_cons.mpr ⟨mm_d_Mo_isBelow, List.forall_mem_cons.mpr ⟨mm_d_Mo_says, List.forall_mem_cons.mpr ⟨mm_d_Mo_cls, List.forall_mem_cons.mpr ⟨mm_d_Mo_field, List.forall_mem_cons.mpr ⟨mm_d_Mo_own, List.forall_mem_cons.mpr ⟨mm_d_Mo_find, List.forall_mem_cons.mpr ⟨mm_d_Mo_method, List.forall_mem_cons.mpr ⟨mm_d_Mo_param, List.forall_mem_cons.mpr ⟨mm_d_Mo_say, List.forall_mem_cons.mpr ⟨mm_d_Mo_result, List.forall_mem_cons.mpr ⟨mm_d_Mo_builtIn, List.forall_mem_cons.mpr ⟨mm_d_Mo_add, List.forall_mem_cons.mpr ⟨mm_d_Mo_guard, List.forall_mem_cons.mpr ⟨mm_d_Mo_wipe, List.forall_mem_cons.mpr ⟨mm_d_Mo_guardOf, fun _ h => absurd h List.not_mem_nil⟩⟩⟩⟩⟩⟩⟩⟩⟩⟩⟩⟩⟩⟩⟩⟩
theorem mm_ms_1_9 : ∀ M ∈ [mm_m_Mo_pops, mm_m_Mo_pushes, mm_m_Mo_wayOf, mm_m_Mo_isShort, mm_m_Mo_set, mm_m_Mo_push, mm_m_Mo_pushSaid, mm_m_Mo_start, mm_m_Mo_take, mm_m_Mo_keep, mm_m_Mo_come, mm_m_Mo_join, mm_m_Mo_settle, mm_m_Mo_look, mm_m_Mo_flow, mm_m_Mo_effect], ∀ e ∈ M.2.2.2.2.2.2, mm_ok1 M e = true := List.forall_mem_cons.mpr ⟨mm_d_Mo_pops, List.forall_mem_cons.mpr ⟨mm_d_Mo_pushes, List.forall_mem_cons.mpr ⟨mm_d_Mo_wayOf, List.forall_mem_cons.mpr ⟨mm_d_Mo_isShort, List.forall_mem_cons.mpr ⟨mm_d_Mo_set, List.forall_mem_cons.mpr ⟨mm_d_Mo_push, List.forall_mem_cons.mpr ⟨mm_d_Mo_pushSaid, List.forall_mem_cons.mpr ⟨mm_d_Mo_start, List.forall_mem_cons.mpr ⟨mm_d_Mo_take, List.forall_mem_cons.mpr ⟨mm_d_Mo_keep, List.forall_mem_cons.mpr ⟨mm_d_Mo_come, List.forall_mem_cons.mpr ⟨mm_d_Mo_join, List.forall_mem_cons.mpr ⟨mm_d_Mo_settle, List.forall_mem_cons.mpr ⟨mm_d_Mo_look, List.forall_mem_cons.mpr ⟨mm_d_Mo_flow, List.forall_mem_cons.mpr ⟨mm_d_Mo_effect, fun _ h => absurd h List.not_mem_nil⟩⟩⟩⟩⟩⟩⟩⟩⟩⟩⟩⟩⟩⟩⟩⟩
theorem mm_ms_1_10 : ∀ M ∈ [mm_m_Mo_wrongFor, mm_m_Mo_isRef, mm_m_Mo_wrongObject, mm_m_Mo_least, mm_m_Mo_errorAt, mm_m_Mo_wrongCall, mm_m_Mo_lacks, mm_m_Mo_isOutside, mm_m_Mo_inspect, mm_m_Mo_check, mm_m_Mo_parts, mm_m_Mo_varies, mm_m_Mo_load, mm_m_Mo_isLoaded, mm_m_Mo_place, mm_m_Mo_frame], ∀ e ∈ M.2.2.2.2.2.2, mm_ok1 M e = true := List.forall_mem_cons.mpr ⟨mm_d_Mo_wrongFor, List.forall_mem_cons.mpr ⟨mm_d_Mo_isRef, List.forall_mem_cons.mpr ⟨mm_d_Mo_wrongObject, List.forall_mem_cons.mpr ⟨mm_d_Mo_least, List.forall_mem_cons.mpr ⟨mm_d_Mo_errorAt, List.forall_mem_cons.mpr ⟨mm_d_Mo_wrongCall, List.forall_mem_cons.mpr ⟨mm_d_Mo_lacks, List.forall_mem_cons.mpr ⟨mm_d_Mo_isOutside, List.forall_mem_cons.mpr ⟨mm_d_Mo_inspect, List.forall_mem_cons.mpr ⟨mm_d_Mo_check, List.forall_mem_cons.mpr ⟨mm_d_Mo_parts, List.forall_mem_cons.mpr ⟨mm_d_Mo_varies, List.forall_mem_cons.mpr ⟨mm_d_Mo_load, List.forall_mem_cons.mpr ⟨mm_d_Mo_isLoaded, List.forall_mem_cons.mpr ⟨mm_d_Mo_place, List.forall_mem_cons.mpr ⟨mm_d_Mo_frame, fun _ h => absurd h List.not_mem_nil⟩⟩⟩⟩⟩⟩⟩⟩⟩⟩⟩⟩⟩⟩⟩⟩
theorem mm_ms_1_11 : ∀ M ∈ [mm_m_Mo_input, mm_m_Mo_run, mm_m_Mo_enter, mm_m_Mo_pull, mm_m_Mo_lay, mm_m_Mo_step, mm_m_Mo_make, mm_m_Mo_call, mm_m_Mo_outside, mm_m_Mo_give, mm_m_Mo_raise, mm_m_Mo_value, mm_m_Mo_output, mm_m_Mo_told], ∀ e ∈ M.2.2.2.2.2.2, mm_ok1 M e = true := List.forall_mem_cons.mpr ⟨mm_d_Mo_input, List.forall_mem_cons.mpr ⟨mm_d_Mo_run, List.forall_mem_cons.mpr ⟨mm_d_Mo_enter, List.forall_mem_cons.mpr ⟨mm_d_Mo_pull, List.forall_mem_cons.mpr ⟨mm_d_Mo_lay, List.forall_mem_cons.mpr ⟨mm_d_Mo_step, List.forall_mem_cons.mpr ⟨mm_d_Mo_make, List.forall_mem_cons.mpr ⟨mm_d_Mo_call, List.forall_mem_cons.mpr ⟨mm_d_Mo_outside, List.forall_mem_cons.mpr ⟨mm_d_Mo_give, List.forall_mem_cons.mpr ⟨mm_d_Mo_raise, List.forall_mem_cons.mpr ⟨mm_d_Mo_value, List.forall_mem_cons.mpr ⟨mm_d_Mo_output, List.forall_mem_cons.mpr ⟨mm_d_Mo_told, fun _ h => absurd h List.not_mem_nil⟩⟩⟩⟩⟩⟩⟩⟩⟩⟩⟩⟩⟩⟩
theorem mm_ms_1 : ∀ M ∈ mm_ms, ∀ e ∈ M.2.2.2.2.2.2, mm_ok1 M e = true := by
  have e : mm_ms = [mm_m_Op_goesOn, mm_m_Op_jumps, mm_m_Op_mayThrow, mm_m_Va_of, mm_m_Va_ofPlace, mm_m_Va_kind, mm_m_Va_classOf, mm_m_Va_may, mm_m_Va_marks, mm_m_Va_origin, mm_m_Va_withOrigin, mm_m_Va_withKind, mm_m_Va_notNull, mm_m_Va_join, mm_m_Va_part, mm_m_Pl_init] ++ ([mm_m_Pl_become, mm_m_Me_init, mm_m_Me_addParam, mm_m_Me_addInstruction, mm_m_Me_addGuard, mm_m_Me_clear, mm_m_Me_isBuiltIn, mm_m_Me_gives, mm_m_Me_takes, mm_m_Me_firstParam, mm_m_Me_caughtAt, mm_m_St_init, mm_m_St_makeClass, mm_m_St_makeField, mm_m_St_makeMethod, mm_m_St_isClass] ++ ([mm_m_St_isMethod, mm_m_St_isPlace, mm_m_St_isArgument, mm_m_St_below, mm_m_St_common, mm_m_St_own, mm_m_St_nearest, mm_m_St_pops, mm_m_St_breaksStack, mm_m_St_canStart, mm_m_Fr_init, mm_m_Fr_become, mm_m_Fr_push, mm_m_Fr_pop, mm_m_Fr_under, mm_m_Fr_store] ++ ([mm_m_Fr_leaveSite, mm_m_Fr_join, mm_m_Ru_init, mm_m_Ru_wayError, mm_m_Ru_leadsAway, mm_m_Ru_valueError, mm_m_Ru_first, mm_m_Ru_intError, mm_m_Ru_isReference, mm_m_Ru_referenceError, mm_m_Ru_holderError, mm_m_Ru_comingError, mm_m_Ru_callError, mm_m_Ru_builtError, mm_m_Ru_isFitBuiltIn, mm_m_Ru_fits] ++ ([mm_m_Ru_fitsWithMarks, mm_m_Ru_mayReplace, mm_m_Lo_init, mm_m_Lo_frameAt, mm_m_Lo_through, mm_m_Lo_departs, mm_m_Lo_begin, mm_m_Lo_settle, mm_m_Lo_leave, mm_m_Lo_beginCatch, mm_m_Lo_arrive, mm_m_Lo_applyToValues, mm_m_Lo_applyToStock, mm_m_Lo_get, mm_m_Lo_put, mm_m_Lo_call] ++ ([mm_m_Lo_isNull, mm_m_Ac_init, mm_m_Ac_begin, mm_m_Ac_push, mm_m_Ac_pop, mm_m_Ma_init, mm_m_Ma_addInput, mm_m_Ma_start, mm_m_Ma_enter, mm_m_Ma_perform, mm_m_Ma_performOnObjects, mm_m_Ma_pushAndGoOn, mm_m_Ma_isObject, mm_m_Ma_makeObject, mm_m_Ma_get, mm_m_Ma_put] ++ ([mm_m_Ma_cast, mm_m_Ma_call, mm_m_Ma_callBuiltIn, mm_m_Ma_give, mm_m_Ma_classOf, mm_m_Ma_raise, mm_m_Ga_init, mm_m_Ga_cls, mm_m_Ga_field, mm_m_Ga_method, mm_m_Ga_param, mm_m_Ga_result, mm_m_Ga_builtIn, mm_m_Ga_add, mm_m_Ga_guard, mm_m_Ga_wipe] ++ ([mm_m_Ga_check, mm_m_Ga_load, mm_m_Ga_isLoaded, mm_m_Ga_place, mm_m_Ga_frame, mm_m_Ga_input, mm_m_Ga_run, mm_m_Ga_value, mm_m_Ga_output, mm_m_Ga_told, mm_m_Ga_placeOf, mm_m_Ga_within, mm_m_Mo_init, mm_m_Mo_within, mm_m_Mo_isClass, mm_m_Mo_isMethod] ++ ([mm_m_Mo_frozen, mm_m_Mo_isBelow, mm_m_Mo_says, mm_m_Mo_cls, mm_m_Mo_field, mm_m_Mo_own, mm_m_Mo_find, mm_m_Mo_method, mm_m_Mo_param, mm_m_Mo_say, mm_m_Mo_result, mm_m_Mo_builtIn, mm_m_Mo_add, mm_m_Mo_guard, mm_m_Mo_wipe, mm_m_Mo_guardOf] ++ ([mm_m_Mo_pops, mm_m_Mo_pushes, mm_m_Mo_wayOf, mm_m_Mo_isShort, mm_m_Mo_set, mm_m_Mo_push, mm_m_Mo_pushSaid, mm_m_Mo_start, mm_m_Mo_take, mm_m_Mo_keep, mm_m_Mo_come, mm_m_Mo_join, mm_m_Mo_settle, mm_m_Mo_look, mm_m_Mo_flow, mm_m_Mo_effect] ++ ([mm_m_Mo_wrongFor, mm_m_Mo_isRef, mm_m_Mo_wrongObject, mm_m_Mo_least, mm_m_Mo_errorAt, mm_m_Mo_wrongCall, mm_m_Mo_lacks, mm_m_Mo_isOutside, mm_m_Mo_inspect, mm_m_Mo_check, mm_m_Mo_parts, mm_m_Mo_varies, mm_m_Mo_load, mm_m_Mo_isLoaded, mm_m_Mo_place, mm_m_Mo_frame] ++ ([mm_m_Mo_input, mm_m_Mo_run, mm_m_Mo_enter, mm_m_Mo_pull, mm_m_Mo_lay, mm_m_Mo_step, mm_m_Mo_make, mm_m_Mo_call, mm_m_Mo_outside, mm_m_Mo_give, mm_m_Mo_raise, mm_m_Mo_value, mm_m_Mo_output, mm_m_Mo_told]))))))))))) := rfl
  rw [e]
  exact List.forall_mem_append.mpr ⟨mm_ms_1_0, List.forall_mem_append.mpr ⟨mm_ms_1_1, List.forall_mem_append.mpr ⟨mm_ms_1_2, List.forall_mem_append.mpr ⟨mm_ms_1_3, List.forall_mem_append.mpr ⟨mm_ms_1_4, List.forall_mem_append.mpr ⟨mm_ms_1_5, List.forall_mem_append.mpr ⟨mm_ms_1_6, List.forall_mem_append.mpr ⟨mm_ms_1_7, List.forall_mem_append.mpr ⟨mm_ms_1_8, List.forall_mem_append.mpr ⟨mm_ms_1_9, List.forall_mem_append.mpr ⟨mm_ms_1_10, mm_ms_1_11⟩⟩⟩⟩⟩⟩⟩⟩⟩⟩⟩
theorem mm_ms_2_0 : ∀ M ∈ [mm_m_Op_goesOn, mm_m_Op_jumps, mm_m_Op_mayThrow, mm_m_Va_of, mm_m_Va_ofPlace, mm_m_Va_kind, mm_m_Va_classOf, mm_m_Va_may, mm_m_Va_marks, mm_m_Va_origin, mm_m_Va_withOrigin, mm_m_Va_withKind, mm_m_Va_notNull, mm_m_Va_join, mm_m_Va_part, mm_m_Pl_init], mm_ok2 M := List.forall_mem_cons.mpr ⟨mm_e_Op_goesOn, List.forall_mem_cons.mpr ⟨mm_e_Op_jumps, List.forall_mem_cons.mpr ⟨mm_e_Op_mayThrow, List.forall_mem_cons.mpr ⟨mm_e_Va_of, List.forall_mem_cons.mpr ⟨mm_e_Va_ofPlace, List.forall_mem_cons.mpr ⟨mm_e_Va_kind, List.forall_mem_cons.mpr ⟨mm_e_Va_classOf, List.forall_mem_cons.mpr ⟨mm_e_Va_may, List.forall_mem_cons.mpr ⟨mm_e_Va_marks, List.forall_mem_cons.mpr ⟨mm_e_Va_origin, List.forall_mem_cons.mpr ⟨mm_e_Va_withOrigin, List.forall_mem_cons.mpr ⟨mm_e_Va_withKind, List.forall_mem_cons.mpr ⟨mm_e_Va_notNull, List.forall_mem_cons.mpr ⟨mm_e_Va_join, List.forall_mem_cons.mpr ⟨mm_e_Va_part, List.forall_mem_cons.mpr ⟨mm_e_Pl_init, fun _ h => absurd h List.not_mem_nil⟩⟩⟩⟩⟩⟩⟩⟩⟩⟩⟩⟩⟩⟩⟩⟩
theorem mm_ms_2_1 : ∀ M ∈ [mm_m_Pl_become, mm_m_Me_init, mm_m_Me_addParam, mm_m_Me_addInstruction, mm_m_Me_addGuard, mm_m_Me_clear, mm_m_Me_isBuiltIn, mm_m_Me_gives, mm_m_Me_takes, mm_m_Me_firstParam, mm_m_Me_caughtAt, mm_m_St_init, mm_m_St_makeClass, mm_m_St_makeField, mm_m_St_makeMethod, mm_m_St_isClass], mm_ok2 M := List.forall_mem_cons.mpr ⟨mm_e_Pl_become, List.forall_mem_cons.mpr ⟨mm_e_Me_init, List.forall_mem_cons.mpr ⟨mm_e_Me_addParam, List.forall_mem_cons.mpr ⟨mm_e_Me_addInstruction, List.forall_mem_cons.mpr ⟨mm_e_Me_addGuard, List.forall_mem_cons.mpr ⟨mm_e_Me_clear, List.forall_mem_cons.mpr ⟨mm_e_Me_isBuiltIn, List.forall_mem_cons.mpr ⟨mm_e_Me_gives, List.forall_mem_cons.mpr ⟨mm_e_Me_takes, List.forall_mem_cons.mpr ⟨mm_e_Me_firstParam, List.forall_mem_cons.mpr ⟨mm_e_Me_caughtAt, List.forall_mem_cons.mpr ⟨mm_e_St_init, List.forall_mem_cons.mpr ⟨mm_e_St_makeClass, List.forall_mem_cons.mpr ⟨mm_e_St_makeField, List.forall_mem_cons.mpr ⟨mm_e_St_makeMethod, List.forall_mem_cons.mpr ⟨mm_e_St_isClass, fun _ h => absurd h List.not_mem_nil⟩⟩⟩⟩⟩⟩⟩⟩⟩⟩⟩⟩⟩⟩⟩⟩
theorem mm_ms_2_2 : ∀ M ∈ [mm_m_St_isMethod, mm_m_St_isPlace, mm_m_St_isArgument, mm_m_St_below, mm_m_St_common, mm_m_St_own, mm_m_St_nearest, mm_m_St_pops, mm_m_St_breaksStack, mm_m_St_canStart, mm_m_Fr_init, mm_m_Fr_become, mm_m_Fr_push, mm_m_Fr_pop, mm_m_Fr_under, mm_m_Fr_store], mm_ok2 M := List.forall_mem_cons.mpr ⟨mm_e_St_isMethod, List.forall_mem_cons.mpr ⟨mm_e_St_isPlace, List.forall_mem_cons.mpr ⟨mm_e_St_isArgument, List.forall_mem_cons.mpr ⟨mm_e_St_below, List.forall_mem_cons.mpr ⟨mm_e_St_common, List.forall_mem_cons.mpr ⟨mm_e_St_own, List.forall_mem_cons.mpr ⟨mm_e_St_nearest, List.forall_mem_cons.mpr ⟨mm_e_St_pops, List.forall_mem_cons.mpr ⟨mm_e_St_breaksStack, List.forall_mem_cons.mpr ⟨mm_e_St_canStart, List.forall_mem_cons.mpr ⟨mm_e_Fr_init, List.forall_mem_cons.mpr ⟨mm_e_Fr_become, List.forall_mem_cons.mpr ⟨mm_e_Fr_push, List.forall_mem_cons.mpr ⟨mm_e_Fr_pop, List.forall_mem_cons.mpr ⟨mm_e_Fr_under, List.forall_mem_cons.mpr ⟨mm_e_Fr_store, fun _ h => absurd h List.not_mem_nil⟩⟩⟩⟩⟩⟩⟩⟩⟩⟩⟩⟩⟩⟩⟩⟩
theorem mm_ms_2_3 : ∀ M ∈ [mm_m_Fr_leaveSite, mm_m_Fr_join, mm_m_Ru_init, mm_m_Ru_wayError, mm_m_Ru_leadsAway, mm_m_Ru_valueError, mm_m_Ru_first, mm_m_Ru_intError, mm_m_Ru_isReference, mm_m_Ru_referenceError, mm_m_Ru_holderError, mm_m_Ru_comingError, mm_m_Ru_callError, mm_m_Ru_builtError, mm_m_Ru_isFitBuiltIn, mm_m_Ru_fits], mm_ok2 M := List.forall_mem_cons.mpr ⟨mm_e_Fr_leaveSite, List.forall_mem_cons.mpr ⟨mm_e_Fr_join, List.forall_mem_cons.mpr ⟨mm_e_Ru_init, List.forall_mem_cons.mpr ⟨mm_e_Ru_wayError, List.forall_mem_cons.mpr ⟨mm_e_Ru_leadsAway, List.forall_mem_cons.mpr ⟨mm_e_Ru_valueError, List.forall_mem_cons.mpr ⟨mm_e_Ru_first, List.forall_mem_cons.mpr ⟨mm_e_Ru_intError, List.forall_mem_cons.mpr ⟨mm_e_Ru_isReference, List.forall_mem_cons.mpr ⟨mm_e_Ru_referenceError, List.forall_mem_cons.mpr ⟨mm_e_Ru_holderError, List.forall_mem_cons.mpr ⟨mm_e_Ru_comingError, List.forall_mem_cons.mpr ⟨mm_e_Ru_callError, List.forall_mem_cons.mpr ⟨mm_e_Ru_builtError, List.forall_mem_cons.mpr ⟨mm_e_Ru_isFitBuiltIn, List.forall_mem_cons.mpr ⟨mm_e_Ru_fits, fun _ h => absurd h List.not_mem_nil⟩⟩⟩⟩⟩⟩⟩⟩⟩⟩⟩⟩⟩⟩⟩⟩
theorem mm_ms_2_4 : ∀ M ∈ [mm_m_Ru_fitsWithMarks, mm_m_Ru_mayReplace, mm_m_Lo_init, mm_m_Lo_frameAt, mm_m_Lo_through, mm_m_Lo_departs, mm_m_Lo_begin, mm_m_Lo_settle, mm_m_Lo_leave, mm_m_Lo_beginCatch, mm_m_Lo_arrive, mm_m_Lo_applyToValues, mm_m_Lo_applyToStock, mm_m_Lo_get, mm_m_Lo_put, mm_m_Lo_call], mm_ok2 M := List.forall_mem_cons.mpr ⟨mm_e_Ru_fitsWithMarks, List.forall_mem_cons.mpr ⟨mm_e_Ru_mayReplace, List.forall_mem_cons.mpr ⟨mm_e_Lo_init, List.forall_mem_cons.mpr ⟨mm_e_Lo_frameAt, List.forall_mem_cons.mpr ⟨mm_e_Lo_through, List.forall_mem_cons.mpr ⟨mm_e_Lo_departs, List.forall_mem_cons.mpr ⟨mm_e_Lo_begin, List.forall_mem_cons.mpr ⟨mm_e_Lo_settle, List.forall_mem_cons.mpr ⟨mm_e_Lo_leave, List.forall_mem_cons.mpr ⟨mm_e_Lo_beginCatch, List.forall_mem_cons.mpr ⟨mm_e_Lo_arrive, List.forall_mem_cons.mpr ⟨mm_e_Lo_applyToValues, List.forall_mem_cons.mpr ⟨mm_e_Lo_applyToStock, List.forall_mem_cons.mpr ⟨mm_e_Lo_get, List.forall_mem_cons.mpr ⟨mm_e_Lo_put, List.forall_mem_cons.mpr ⟨mm_e_Lo_call, fun _ h => absurd h List.not_mem_nil⟩⟩⟩⟩⟩⟩⟩⟩⟩⟩⟩⟩⟩⟩⟩⟩
theorem mm_ms_2_5 : ∀ M ∈ [mm_m_Lo_isNull, mm_m_Ac_init, mm_m_Ac_begin, mm_m_Ac_push, mm_m_Ac_pop, mm_m_Ma_init, mm_m_Ma_addInput, mm_m_Ma_start, mm_m_Ma_enter, mm_m_Ma_perform, mm_m_Ma_performOnObjects, mm_m_Ma_pushAndGoOn, mm_m_Ma_isObject, mm_m_Ma_makeObject, mm_m_Ma_get, mm_m_Ma_put], mm_ok2 M := List.forall_mem_cons.mpr ⟨mm_e_Lo_isNull, List.forall_mem_cons.mpr ⟨mm_e_Ac_init, List.forall_mem_cons.mpr ⟨mm_e_Ac_begin, List.forall_mem_cons.mpr ⟨mm_e_Ac_push, List.forall_mem_cons.mpr ⟨mm_e_Ac_pop, List.forall_mem_cons.mpr ⟨mm_e_Ma_init, List.forall_mem_cons.mpr ⟨mm_e_Ma_addInput, List.forall_mem_cons.mpr ⟨mm_e_Ma_start, List.forall_mem_cons.mpr ⟨mm_e_Ma_enter, List.forall_mem_cons.mpr ⟨mm_e_Ma_perform, List.forall_mem_cons.mpr ⟨mm_e_Ma_performOnObjects, List.forall_mem_cons.mpr ⟨mm_e_Ma_pushAndGoOn, List.forall_mem_cons.mpr ⟨mm_e_Ma_isObject, List.forall_mem_cons.mpr ⟨mm_e_Ma_makeObject, List.forall_mem_cons.mpr ⟨mm_e_Ma_get, List.forall_mem_cons.mpr ⟨mm_e_Ma_put, fun _ h => absurd h List.not_mem_nil⟩⟩⟩⟩⟩⟩⟩⟩⟩⟩⟩⟩⟩⟩⟩⟩
theorem mm_ms_2_6 : ∀ M ∈ [mm_m_Ma_cast, mm_m_Ma_call, mm_m_Ma_callBuiltIn, mm_m_Ma_give, mm_m_Ma_classOf, mm_m_Ma_raise, mm_m_Ga_init, mm_m_Ga_cls, mm_m_Ga_field, mm_m_Ga_method, mm_m_Ga_param, mm_m_Ga_result, mm_m_Ga_builtIn, mm_m_Ga_add, mm_m_Ga_guard, mm_m_Ga_wipe], mm_ok2 M := List.forall_mem_cons.mpr ⟨mm_e_Ma_cast, List.forall_mem_cons.mpr ⟨mm_e_Ma_call, List.forall_mem_cons.mpr ⟨mm_e_Ma_callBuiltIn, List.forall_mem_cons.mpr ⟨mm_e_Ma_give, List.forall_mem_cons.mpr ⟨mm_e_Ma_classOf, List.forall_mem_cons.mpr ⟨mm_e_Ma_raise, List.forall_mem_cons.mpr ⟨mm_e_Ga_init, List.forall_mem_cons.mpr ⟨mm_e_Ga_cls, List.forall_mem_cons.mpr ⟨mm_e_Ga_field, List.forall_mem_cons.mpr ⟨mm_e_Ga_method, List.forall_mem_cons.mpr ⟨mm_e_Ga_param, List.forall_mem_cons.mpr ⟨mm_e_Ga_result, List.forall_mem_cons.mpr ⟨mm_e_Ga_builtIn, List.forall_mem_cons.mpr ⟨mm_e_Ga_add, List.forall_mem_cons.mpr ⟨mm_e_Ga_guard, List.forall_mem_cons.mpr ⟨mm_e_Ga_wipe, fun _ h => absurd h List.not_mem_nil⟩⟩⟩⟩⟩⟩⟩⟩⟩⟩⟩⟩⟩⟩⟩⟩
theorem mm_ms_2_7 : ∀ M ∈ [mm_m_Ga_check, mm_m_Ga_load, mm_m_Ga_isLoaded, mm_m_Ga_place, mm_m_Ga_frame, mm_m_Ga_input, mm_m_Ga_run, mm_m_Ga_value, mm_m_Ga_output, mm_m_Ga_told, mm_m_Ga_placeOf, mm_m_Ga_within, mm_m_Mo_init, mm_m_Mo_within, mm_m_Mo_isClass, mm_m_Mo_isMethod], mm_ok2 M := List.forall_mem_cons.mpr ⟨mm_e_Ga_check, List.forall_mem_cons.mpr ⟨mm_e_Ga_load, List.forall_mem_cons.mpr ⟨mm_e_Ga_isLoaded, List.forall_mem_cons.mpr ⟨mm_e_Ga_place, List.forall_mem_cons.mpr ⟨mm_e_Ga_frame, List.forall_mem_cons.mpr ⟨mm_e_Ga_input, List.forall_mem_cons.mpr ⟨mm_e_Ga_run, List.forall_mem_cons.mpr ⟨mm_e_Ga_value, List.forall_mem_cons.mpr ⟨mm_e_Ga_output, List.forall_mem_cons.mpr ⟨mm_e_Ga_told, List.forall_mem_cons.mpr ⟨mm_e_Ga_placeOf, List.forall_mem_cons.mpr ⟨mm_e_Ga_within, List.forall_mem_cons.mpr ⟨mm_e_Mo_init, List.forall_mem_cons.mpr ⟨mm_e_Mo_within, List.forall_mem_cons.mpr ⟨mm_e_Mo_isClass, List.forall_mem_cons.mpr ⟨mm_e_Mo_isMethod, fun _ h => absurd h List.not_mem_nil⟩⟩⟩⟩⟩⟩⟩⟩⟩⟩⟩⟩⟩⟩⟩⟩
theorem mm_ms_2_8 : ∀ M ∈ [mm_m_Mo_frozen, mm_m_Mo_isBelow, mm_m_Mo_says, mm_m_Mo_cls, mm_m_Mo_field, mm_m_Mo_own, mm_m_Mo_find, mm_m_Mo_method, mm_m_Mo_param, mm_m_Mo_say, mm_m_Mo_result, mm_m_Mo_builtIn, mm_m_Mo_add, mm_m_Mo_guard, mm_m_Mo_wipe, mm_m_Mo_guardOf], mm_ok2 M := List.forall_mem_cons.mpr ⟨mm_e_Mo_frozen, List.forall_mem_cons.mpr ⟨mm_e_Mo_isBelow, List.forall_mem_cons.mpr ⟨mm_e_Mo_says, List.forall_mem_cons.mpr ⟨mm_e_Mo_cls, List.forall_mem_cons.mpr ⟨mm_e_Mo_field, List.forall_mem_cons.mpr ⟨mm_e_Mo_own, List.forall_mem_cons.mpr ⟨mm_e_Mo_find, List.forall_mem_cons.mpr ⟨mm_e_Mo_method, List.forall_mem_cons.mpr ⟨mm_e_Mo_param, List.forall_mem_cons.mpr ⟨mm_e_Mo_say, List.forall_mem_cons.mpr ⟨mm_e_Mo_result, List.forall_mem_cons.mpr ⟨mm_e_Mo_builtIn, List.forall_mem_cons.mpr ⟨mm_e_Mo_add, List.forall_mem_cons.mpr ⟨mm_e_Mo_guard, List.forall_mem_cons.mpr ⟨mm_e_Mo_wipe, List.forall_mem_cons.mpr ⟨mm_e_Mo_guardOf, fun _ h => absurd h List.not_mem_nil⟩⟩⟩⟩⟩⟩⟩⟩⟩⟩⟩⟩⟩⟩⟩⟩
theorem mm_ms_2_9 : ∀ M ∈ [mm_m_Mo_pops, mm_m_Mo_pushes, mm_m_Mo_wayOf, mm_m_Mo_isShort, mm_m_Mo_set, mm_m_Mo_push, mm_m_Mo_pushSaid, mm_m_Mo_start, mm_m_Mo_take, mm_m_Mo_keep, mm_m_Mo_come, mm_m_Mo_join, mm_m_Mo_settle, mm_m_Mo_look, mm_m_Mo_flow, mm_m_Mo_effect], mm_ok2 M := List.forall_mem_cons.mpr ⟨mm_e_Mo_pops, List.forall_mem_cons.mpr ⟨mm_e_Mo_pushes, List.forall_mem_cons.mpr ⟨mm_e_Mo_wayOf, List.forall_mem_cons.mpr ⟨mm_e_Mo_isShort, List.forall_mem_cons.mpr ⟨mm_e_Mo_set, List.forall_mem_cons.mpr ⟨mm_e_Mo_push, List.forall_mem_cons.mpr ⟨mm_e_Mo_pushSaid, List.forall_mem_cons.mpr ⟨mm_e_Mo_start, List.forall_mem_cons.mpr ⟨mm_e_Mo_take, List.forall_mem_cons.mpr ⟨mm_e_Mo_keep, List.forall_mem_cons.mpr ⟨mm_e_Mo_come, List.forall_mem_cons.mpr ⟨mm_e_Mo_join, List.forall_mem_cons.mpr ⟨mm_e_Mo_settle, List.forall_mem_cons.mpr ⟨mm_e_Mo_look, List.forall_mem_cons.mpr ⟨mm_e_Mo_flow, List.forall_mem_cons.mpr ⟨mm_e_Mo_effect, fun _ h => absurd h List.not_mem_nil⟩⟩⟩⟩⟩⟩⟩⟩⟩⟩⟩⟩⟩⟩⟩⟩
theorem mm_ms_2_10 : ∀ M ∈ [mm_m_Mo_wrongFor, mm_m_Mo_isRef, mm_m_Mo_wrongObject, mm_m_Mo_least, mm_m_Mo_errorAt, mm_m_Mo_wrongCall, mm_m_Mo_lacks, mm_m_Mo_isOutside, mm_m_Mo_inspect, mm_m_Mo_check, mm_m_Mo_parts, mm_m_Mo_varies, mm_m_Mo_load, mm_m_Mo_isLoaded, mm_m_Mo_place, mm_m_Mo_frame], mm_ok2 M := List.forall_mem_cons.mpr ⟨mm_e_Mo_wrongFor, List.forall_mem_cons.mpr ⟨mm_e_Mo_isRef, List.forall_mem_cons.mpr ⟨mm_e_Mo_wrongObject, List.forall_mem_cons.mpr ⟨mm_e_Mo_least, List.forall_mem_cons.mpr ⟨mm_e_Mo_errorAt, List.forall_mem_cons.mpr ⟨mm_e_Mo_wrongCall, List.forall_mem_cons.mpr ⟨mm_e_Mo_lacks, List.forall_mem_cons.mpr ⟨mm_e_Mo_isOutside, List.forall_mem_cons.mpr ⟨mm_e_Mo_inspect, List.forall_mem_cons.mpr ⟨mm_e_Mo_check, List.forall_mem_cons.mpr ⟨mm_e_Mo_parts, List.forall_mem_cons.mpr ⟨mm_e_Mo_varies, List.forall_mem_cons.mpr ⟨mm_e_Mo_load, List.forall_mem_cons.mpr ⟨mm_e_Mo_isLoaded, List.forall_mem_cons.mpr ⟨mm_e_Mo_place, List.forall_mem_cons.mpr ⟨mm_e_Mo_frame, fun _ h => absurd h List.not_mem_nil⟩⟩⟩⟩⟩⟩⟩⟩⟩⟩⟩⟩⟩⟩⟩⟩
theorem mm_ms_2_11 : ∀ M ∈ [mm_m_Mo_input, mm_m_Mo_run, mm_m_Mo_enter, mm_m_Mo_pull, mm_m_Mo_lay, mm_m_Mo_step, mm_m_Mo_make, mm_m_Mo_call, mm_m_Mo_outside, mm_m_Mo_give, mm_m_Mo_raise, mm_m_Mo_value, mm_m_Mo_output, mm_m_Mo_told], mm_ok2 M := List.forall_mem_cons.mpr ⟨mm_e_Mo_input, List.forall_mem_cons.mpr ⟨mm_e_Mo_run, List.forall_mem_cons.mpr ⟨mm_e_Mo_enter, List.forall_mem_cons.mpr ⟨mm_e_Mo_pull, List.forall_mem_cons.mpr ⟨mm_e_Mo_lay, List.forall_mem_cons.mpr ⟨mm_e_Mo_step, List.forall_mem_cons.mpr ⟨mm_e_Mo_make, List.forall_mem_cons.mpr ⟨mm_e_Mo_call, List.forall_mem_cons.mpr ⟨mm_e_Mo_outside, List.forall_mem_cons.mpr ⟨mm_e_Mo_give, List.forall_mem_cons.mpr ⟨mm_e_Mo_raise, List.forall_mem_cons.mpr ⟨mm_e_Mo_value, List.forall_mem_cons.mpr ⟨mm_e_Mo_output, List.forall_mem_cons.mpr ⟨mm_e_Mo_told, fun _ h => absurd h List.not_mem_nil⟩⟩⟩⟩⟩⟩⟩⟩⟩⟩⟩⟩⟩⟩
theorem mm_ms_2 : ∀ M ∈ mm_ms, mm_ok2 M := by
  have e : mm_ms = [mm_m_Op_goesOn, mm_m_Op_jumps, mm_m_Op_mayThrow, mm_m_Va_of, mm_m_Va_ofPlace, mm_m_Va_kind, mm_m_Va_classOf, mm_m_Va_may, mm_m_Va_marks, mm_m_Va_origin, mm_m_Va_withOrigin, mm_m_Va_withKind, mm_m_Va_notNull, mm_m_Va_join, mm_m_Va_part, mm_m_Pl_init] ++ ([mm_m_Pl_become, mm_m_Me_init, mm_m_Me_addParam, mm_m_Me_addInstruction, mm_m_Me_addGuard, mm_m_Me_clear, mm_m_Me_isBuiltIn, mm_m_Me_gives, mm_m_Me_takes, mm_m_Me_firstParam, mm_m_Me_caughtAt, mm_m_St_init, mm_m_St_makeClass, mm_m_St_makeField, mm_m_St_makeMethod, mm_m_St_isClass] ++ ([mm_m_St_isMethod, mm_m_St_isPlace, mm_m_St_isArgument, mm_m_St_below, mm_m_St_common, mm_m_St_own, mm_m_St_nearest, mm_m_St_pops, mm_m_St_breaksStack, mm_m_St_canStart, mm_m_Fr_init, mm_m_Fr_become, mm_m_Fr_push, mm_m_Fr_pop, mm_m_Fr_under, mm_m_Fr_store] ++ ([mm_m_Fr_leaveSite, mm_m_Fr_join, mm_m_Ru_init, mm_m_Ru_wayError, mm_m_Ru_leadsAway, mm_m_Ru_valueError, mm_m_Ru_first, mm_m_Ru_intError, mm_m_Ru_isReference, mm_m_Ru_referenceError, mm_m_Ru_holderError, mm_m_Ru_comingError, mm_m_Ru_callError, mm_m_Ru_builtError, mm_m_Ru_isFitBuiltIn, mm_m_Ru_fits] ++ ([mm_m_Ru_fitsWithMarks, mm_m_Ru_mayReplace, mm_m_Lo_init, mm_m_Lo_frameAt, mm_m_Lo_through, mm_m_Lo_departs, mm_m_Lo_begin, mm_m_Lo_settle, mm_m_Lo_leave, mm_m_Lo_beginCatch, mm_m_Lo_arrive, mm_m_Lo_applyToValues, mm_m_Lo_applyToStock, mm_m_Lo_get, mm_m_Lo_put, mm_m_Lo_call] ++ ([mm_m_Lo_isNull, mm_m_Ac_init, mm_m_Ac_begin, mm_m_Ac_push, mm_m_Ac_pop, mm_m_Ma_init, mm_m_Ma_addInput, mm_m_Ma_start, mm_m_Ma_enter, mm_m_Ma_perform, mm_m_Ma_performOnObjects, mm_m_Ma_pushAndGoOn, mm_m_Ma_isObject, mm_m_Ma_makeObject, mm_m_Ma_get, mm_m_Ma_put] ++ ([mm_m_Ma_cast, mm_m_Ma_call, mm_m_Ma_callBuiltIn, mm_m_Ma_give, mm_m_Ma_classOf, mm_m_Ma_raise, mm_m_Ga_init, mm_m_Ga_cls, mm_m_Ga_field, mm_m_Ga_method, mm_m_Ga_param, mm_m_Ga_result, mm_m_Ga_builtIn, mm_m_Ga_add, mm_m_Ga_guard, mm_m_Ga_wipe] ++ ([mm_m_Ga_check, mm_m_Ga_load, mm_m_Ga_isLoaded, mm_m_Ga_place, mm_m_Ga_frame, mm_m_Ga_input, mm_m_Ga_run, mm_m_Ga_value, mm_m_Ga_output, mm_m_Ga_told, mm_m_Ga_placeOf, mm_m_Ga_within, mm_m_Mo_init, mm_m_Mo_within, mm_m_Mo_isClass, mm_m_Mo_isMethod] ++ ([mm_m_Mo_frozen, mm_m_Mo_isBelow, mm_m_Mo_says, mm_m_Mo_cls, mm_m_Mo_field, mm_m_Mo_own, mm_m_Mo_find, mm_m_Mo_method, mm_m_Mo_param, mm_m_Mo_say, mm_m_Mo_result, mm_m_Mo_builtIn, mm_m_Mo_add, mm_m_Mo_guard, mm_m_Mo_wipe, mm_m_Mo_guardOf] ++ ([mm_m_Mo_pops, mm_m_Mo_pushes, mm_m_Mo_wayOf, mm_m_Mo_isShort, mm_m_Mo_set, mm_m_Mo_push, mm_m_Mo_pushSaid, mm_m_Mo_start, mm_m_Mo_take, mm_m_Mo_keep, mm_m_Mo_come, mm_m_Mo_join, mm_m_Mo_settle, mm_m_Mo_look, mm_m_Mo_flow, mm_m_Mo_effect] ++ ([mm_m_Mo_wrongFor, mm_m_Mo_isRef, mm_m_Mo_wrongObject, mm_m_Mo_least, mm_m_Mo_errorAt, mm_m_Mo_wrongCall, mm_m_Mo_lacks, mm_m_Mo_isOutside, mm_m_Mo_inspect, mm_m_Mo_check, mm_m_Mo_parts, mm_m_Mo_varies, mm_m_Mo_load, mm_m_Mo_isLoaded, mm_m_Mo_place, mm_m_Mo_frame] ++ ([mm_m_Mo_input, mm_m_Mo_run, mm_m_Mo_enter, mm_m_Mo_pull, mm_m_Mo_lay, mm_m_Mo_step, mm_m_Mo_make, mm_m_Mo_call, mm_m_Mo_outside, mm_m_Mo_give, mm_m_Mo_raise, mm_m_Mo_value, mm_m_Mo_output, mm_m_Mo_told]))))))))))) := rfl
  rw [e]
  exact List.forall_mem_append.mpr ⟨mm_ms_2_0, List.forall_mem_append.mpr ⟨mm_ms_2_1, List.forall_mem_append.mpr ⟨mm_ms_2_2, List.forall_mem_append.mpr ⟨mm_ms_2_3, List.forall_mem_append.mpr ⟨mm_ms_2_4, List.forall_mem_append.mpr ⟨mm_ms_2_5, List.forall_mem_append.mpr ⟨mm_ms_2_6, List.forall_mem_append.mpr ⟨mm_ms_2_7, List.forall_mem_append.mpr ⟨mm_ms_2_8, List.forall_mem_append.mpr ⟨mm_ms_2_9, List.forall_mem_append.mpr ⟨mm_ms_2_10, mm_ms_2_11⟩⟩⟩⟩⟩⟩⟩⟩⟩⟩⟩
theorem mm_in0 : ∀ w ∈ u_ws "QualifierGate" mm_T0 4, w ∈ mm_G := by decide +kernel
theorem mm_nm0 : ∀ a, a < 4 → ∀ b, b < 4 → a ≠ b → (mm_T0 a).2.1 ≠ (mm_T0 b).2.1 := by decide +kernel
theorem mm_tk0 : ∀ k, k < 4 → parseFieldDescriptor (mm_T0 k).2.2.1 = some (mm_y0 k) := by decide +kernel
theorem mm_in1 : ∀ w ∈ u_ws "QualifierGate$Stock" mm_T1 10, w ∈ mm_G := by decide +kernel
theorem mm_nm1 : ∀ a, a < 10 → ∀ b, b < 10 → a ≠ b → (mm_T1 a).2.1 ≠ (mm_T1 b).2.1 := by decide +kernel
theorem mm_tk1 : ∀ k, k < 10 → parseFieldDescriptor (mm_T1 k).2.2.1 = some (mm_y1 k) := by decide +kernel
theorem mm_in2 : ∀ w ∈ u_ws "QualifierGate$Look" mm_T2 7, w ∈ mm_G := by decide +kernel
theorem mm_nm2 : ∀ a, a < 7 → ∀ b, b < 7 → a ≠ b → (mm_T2 a).2.1 ≠ (mm_T2 b).2.1 := by decide +kernel
theorem mm_tk2 : ∀ k, k < 7 → parseFieldDescriptor (mm_T2 k).2.2.1 = some (mm_y2 k) := by decide +kernel
theorem mm_in3 : ∀ w ∈ u_ws "QualifierGate$Frame" mm_T3 5, w ∈ mm_G := by decide +kernel
theorem mm_nm3 : ∀ a, a < 5 → ∀ b, b < 5 → a ≠ b → (mm_T3 a).2.1 ≠ (mm_T3 b).2.1 := by decide +kernel
theorem mm_tk3 : ∀ k, k < 5 → parseFieldDescriptor (mm_T3 k).2.2.1 = some (mm_y3 k) := by decide +kernel
theorem mm_in4 : ∀ w ∈ u_ws "QualifierGate$Rules" mm_T4 1, w ∈ mm_G := by decide +kernel
theorem mm_nm4 : ∀ a, a < 1 → ∀ b, b < 1 → a ≠ b → (mm_T4 a).2.1 ≠ (mm_T4 b).2.1 := by decide +kernel
theorem mm_tk4 : ∀ k, k < 1 → parseFieldDescriptor (mm_T4 k).2.2.1 = some (mm_y4 k) := by decide +kernel
theorem mm_in5 : ∀ w ∈ u_ws "QualifierGate$Machine" mm_T5 15, w ∈ mm_G := by decide +kernel
theorem mm_nm5 : ∀ a, a < 15 → ∀ b, b < 15 → a ≠ b → (mm_T5 a).2.1 ≠ (mm_T5 b).2.1 := by decide +kernel
theorem mm_tk5 : ∀ k, k < 15 → parseFieldDescriptor (mm_T5 k).2.2.1 = some (mm_y5 k) := by decide +kernel
theorem mm_in6 : ∀ w ∈ u_ws "QualifierGate$Activation" mm_T6 5, w ∈ mm_G := by decide +kernel
theorem mm_nm6 : ∀ a, a < 5 → ∀ b, b < 5 → a ≠ b → (mm_T6 a).2.1 ≠ (mm_T6 b).2.1 := by decide +kernel
theorem mm_tk6 : ∀ k, k < 5 → parseFieldDescriptor (mm_T6 k).2.2.1 = some (mm_y6 k) := by decide +kernel
theorem mm_in7 : ∀ w ∈ u_ws "QualifierGate$Place" mm_T7 3, w ∈ mm_G := by decide +kernel
theorem mm_nm7 : ∀ a, a < 3 → ∀ b, b < 3 → a ≠ b → (mm_T7 a).2.1 ≠ (mm_T7 b).2.1 := by decide +kernel
theorem mm_tk7 : ∀ k, k < 3 → parseFieldDescriptor (mm_T7 k).2.2.1 = some (mm_y7 k) := by decide +kernel
theorem mm_in8 : ∀ w ∈ u_ws "QualifierGate$Method" mm_T8 14, w ∈ mm_G := by decide +kernel
theorem mm_nm8 : ∀ a, a < 14 → ∀ b, b < 14 → a ≠ b → (mm_T8 a).2.1 ≠ (mm_T8 b).2.1 := by decide +kernel
theorem mm_tk8 : ∀ k, k < 14 → parseFieldDescriptor (mm_T8 k).2.2.1 = some (mm_y8 k) := by decide +kernel
theorem mm_in9 : ∀ w ∈ u_ws "QualifierGateModel" mm_T9 61, w ∈ mm_G := by decide +kernel
theorem mm_nm9 : ∀ a, a < 61 → ∀ b, b < 61 → a ≠ b → (mm_T9 a).2.1 ≠ (mm_T9 b).2.1 := by decide +kernel
theorem mm_tk9 : ∀ k, k < 61 → parseFieldDescriptor (mm_T9 k).2.2.1 = some (mm_y9 k) := by decide +kernel
