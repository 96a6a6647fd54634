theorem sims_d : SimAll (RR TSd) :=
  ⟨sim_node TSd_f, sim_channel TSd_f, sim_size TSd_f, sim_broken TSd_f, sim_open TSd_f, sim_path TSd_f, sim_along TSd_f, sim_go TSd_f, sim_about, sim_look, sim_all, sim_field TSd_f, sim_deed TSd_f, sim_annul TSd_f, sim_written, sim_owner, sim_ran, sim_owed TSd_f, sim_feed TSd_f, sim_end TSd_f, sim_statute TSd_f, sim_fault, sim_dry TSd_f, sim_holder TSd_f, sim_duty TSd_f, sim_lay, sim_laid, sim_gauge TSd_f, sim_stolen, sim_count, sim_image TSd_f, sim_again TSd_f⟩
theorem RR_start : RR TSd g00 := RR.mk RT_start RI_start ⟨by decide +kernel, by decide +kernel, Or.inl (by decide +kernel)⟩
theorem law_d : LawOk := law_of sims_d RR_start
