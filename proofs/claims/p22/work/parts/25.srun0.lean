/-! THE LAW RUN BY THE KERNEL -/
theorem sr_first : sm_run (s_stop sh0 sKL) sc_meth 6000 (s_env 2147483648 2147486720 2147483648 2147483711) (271, 0, sc_meth 271, [4295967296, sUNS, sUNS, sUNS, sUNS, sUNS, sUNS, sUNS], []) [] (fun _ => (0, 0, fun _ => 0), 0, 0) = true := by decide +kernel
