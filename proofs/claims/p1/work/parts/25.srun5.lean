/-! THE LAW RUN BY THE KERNEL: station -/
theorem sr_op11_15 : sm_run s_no sc_meth 40000 (s_env1 2147483691 2147483693 2147483654 2147483654 2147483659 2147483659) (271, 18, sc_l18, sKL, []) [] sh0 = true := by decide +kernel
theorem sr_op11_16 : sm_run s_no sc_meth 40000 (s_env1 2147483694 2147483696 2147483654 2147483654 2147483659 2147483659) (271, 18, sc_l18, sKL, []) [] sh0 = true := by decide +kernel
theorem sr_op11_17 : sm_run s_no sc_meth 40000 (s_env1 2147483697 2147483698 2147483654 2147483654 2147483659 2147483659) (271, 18, sc_l18, sKL, []) [] sh0 = true := by decide +kernel
theorem sr_op11_18 : sm_run s_no sc_meth 40000 (s_env1 2147483699 4294967295 2147483654 2147483654 2147483659 2147483659) (271, 18, sc_l18, sKL, []) [] sh0 = true := by decide +kernel
