/-! the law: what its instructions are -/
theorem dd_L_law_1826 : decode Y_L_law.2.1 1826 = .ok (.goto 435, 3) := by decide +kernel
theorem dd_L_law_1829 : decode Y_L_law.2.1 1829 = .ok (.aload_n 1, 1) := by decide +kernel
theorem dd_L_law_1830 : decode Y_L_law.2.1 1830 = .ok (.aload_n 0, 1) := by decide +kernel
theorem dd_L_law_1831 : decode Y_L_law.2.1 1831 = .ok (.iload 4, 2) := by decide +kernel
theorem dd_L_law_1833 : decode Y_L_law.2.1 1833 = .ok (.iconst 1, 1) := by decide +kernel
theorem dd_L_law_1834 : decode Y_L_law.2.1 1834 = .ok (.iadd, 1) := by decide +kernel
theorem dd_L_law_1835 : decode Y_L_law.2.1 1835 = .ok (.iaload, 1) := by decide +kernel
theorem dd_L_law_1836 : decode Y_L_law.2.1 1836 = .ok (.aload_n 3, 1) := by decide +kernel
theorem dd_L_law_1837 : decode Y_L_law.2.1 1837 = .ok (.invokestatic 206, 3) := by decide +kernel
theorem dd_L_law_1840 : decode Y_L_law.2.1 1840 = .ok (.istore 5, 2) := by decide +kernel
theorem dd_L_law_1842 : decode Y_L_law.2.1 1842 = .ok (.aload_n 2, 1) := by decide +kernel
theorem dd_L_law_1843 : decode Y_L_law.2.1 1843 = .ok (.aload_n 0, 1) := by decide +kernel
theorem dd_L_law_1844 : decode Y_L_law.2.1 1844 = .ok (.iload 4, 2) := by decide +kernel
theorem dd_L_law_1846 : decode Y_L_law.2.1 1846 = .ok (.iconst 1, 1) := by decide +kernel
theorem dd_L_law_1847 : decode Y_L_law.2.1 1847 = .ok (.iadd, 1) := by decide +kernel
theorem dd_L_law_1848 : decode Y_L_law.2.1 1848 = .ok (.iaload, 1) := by decide +kernel
theorem dd_L_law_1849 : decode Y_L_law.2.1 1849 = .ok (.invokevirtual 208, 3) := by decide +kernel
theorem dd_L_law_1852 : decode Y_L_law.2.1 1852 = .ok (.istore 6, 2) := by decide +kernel
theorem dd_L_law_1854 : decode Y_L_law.2.1 1854 = .ok (.aload_n 2, 1) := by decide +kernel
theorem dd_L_law_1855 : decode Y_L_law.2.1 1855 = .ok (.invokevirtual 117, 3) := by decide +kernel
theorem dd_L_law_1858 : decode Y_L_law.2.1 1858 = .ok (.iload 5, 2) := by decide +kernel
theorem dd_L_law_1860 : decode Y_L_law.2.1 1860 = .ok (.if_icmp .eq 5, 3) := by decide +kernel
theorem dd_L_law_1863 : decode Y_L_law.2.1 1863 = .ok (.iconst 0, 1) := by decide +kernel
theorem dd_L_law_1864 : decode Y_L_law.2.1 1864 = .ok (.ireturn, 1) := by decide +kernel
theorem dd_L_law_1865 : decode Y_L_law.2.1 1865 = .ok (.iload 5, 2) := by decide +kernel
theorem dd_L_law_1867 : decode Y_L_law.2.1 1867 = .ok (.ifCond .ne 15, 3) := by decide +kernel
theorem dd_L_law_1870 : decode Y_L_law.2.1 1870 = .ok (.aload_n 3, 1) := by decide +kernel
theorem dd_L_law_1871 : decode Y_L_law.2.1 1871 = .ok (.iconst 0, 1) := by decide +kernel
theorem dd_L_law_1872 : decode Y_L_law.2.1 1872 = .ok (.laload, 1) := by decide +kernel
theorem dd_L_law_1873 : decode Y_L_law.2.1 1873 = .ok (.iload 6, 2) := by decide +kernel
theorem dd_L_law_1875 : decode Y_L_law.2.1 1875 = .ok (.i2l, 1) := by decide +kernel
theorem dd_L_law_1876 : decode Y_L_law.2.1 1876 = .ok (.lcmp, 1) := by decide +kernel
theorem dd_L_law_1877 : decode Y_L_law.2.1 1877 = .ok (.ifCond .eq 5, 3) := by decide +kernel
theorem dd_L_law_1880 : decode Y_L_law.2.1 1880 = .ok (.iconst 0, 1) := by decide +kernel
theorem dd_L_law_1881 : decode Y_L_law.2.1 1881 = .ok (.ireturn, 1) := by decide +kernel
theorem dd_L_law_1882 : decode Y_L_law.2.1 1882 = .ok (.goto 379, 3) := by decide +kernel
theorem dd_L_law_1885 : decode Y_L_law.2.1 1885 = .ok (.aload_n 1, 1) := by decide +kernel
theorem dd_L_law_1886 : decode Y_L_law.2.1 1886 = .ok (.aload_n 0, 1) := by decide +kernel
theorem dd_L_law_1887 : decode Y_L_law.2.1 1887 = .ok (.iload 4, 2) := by decide +kernel
theorem dd_L_law_1889 : decode Y_L_law.2.1 1889 = .ok (.iconst 1, 1) := by decide +kernel
theorem dd_L_law_1890 : decode Y_L_law.2.1 1890 = .ok (.iadd, 1) := by decide +kernel
theorem dd_L_law_1891 : decode Y_L_law.2.1 1891 = .ok (.iaload, 1) := by decide +kernel
theorem dd_L_law_1892 : decode Y_L_law.2.1 1892 = .ok (.aload_n 0, 1) := by decide +kernel
theorem dd_L_law_1893 : decode Y_L_law.2.1 1893 = .ok (.iload 4, 2) := by decide +kernel
theorem dd_L_law_1895 : decode Y_L_law.2.1 1895 = .ok (.iconst 2, 1) := by decide +kernel
theorem dd_L_law_1896 : decode Y_L_law.2.1 1896 = .ok (.iadd, 1) := by decide +kernel
theorem dd_L_law_1897 : decode Y_L_law.2.1 1897 = .ok (.iaload, 1) := by decide +kernel
theorem dd_L_law_1898 : decode Y_L_law.2.1 1898 = .ok (.aload_n 0, 1) := by decide +kernel
theorem dd_L_law_1899 : decode Y_L_law.2.1 1899 = .ok (.iload 4, 2) := by decide +kernel
theorem dd_L_law_1901 : decode Y_L_law.2.1 1901 = .ok (.iconst 3, 1) := by decide +kernel
theorem dd_L_law_1902 : decode Y_L_law.2.1 1902 = .ok (.iadd, 1) := by decide +kernel
theorem dd_L_law_1903 : decode Y_L_law.2.1 1903 = .ok (.iaload, 1) := by decide +kernel
theorem dd_L_law_1904 : decode Y_L_law.2.1 1904 = .ok (.aload_n 3, 1) := by decide +kernel
theorem dd_L_law_1905 : decode Y_L_law.2.1 1905 = .ok (.invokestatic 209, 3) := by decide +kernel
theorem dd_L_law_1908 : decode Y_L_law.2.1 1908 = .ok (.istore 5, 2) := by decide +kernel
theorem dd_L_law_1910 : decode Y_L_law.2.1 1910 = .ok (.aload_n 2, 1) := by decide +kernel
theorem dd_L_law_1911 : decode Y_L_law.2.1 1911 = .ok (.aload_n 0, 1) := by decide +kernel
theorem dd_L_law_1912 : decode Y_L_law.2.1 1912 = .ok (.iload 4, 2) := by decide +kernel
theorem dd_L_law_1914 : decode Y_L_law.2.1 1914 = .ok (.iconst 1, 1) := by decide +kernel
theorem dd_L_law_1915 : decode Y_L_law.2.1 1915 = .ok (.iadd, 1) := by decide +kernel
theorem dd_L_law_1916 : decode Y_L_law.2.1 1916 = .ok (.iaload, 1) := by decide +kernel
theorem dd_L_law_1917 : decode Y_L_law.2.1 1917 = .ok (.aload_n 0, 1) := by decide +kernel
theorem dd_L_law_1918 : decode Y_L_law.2.1 1918 = .ok (.iload 4, 2) := by decide +kernel
theorem dd_L_law_1920 : decode Y_L_law.2.1 1920 = .ok (.iconst 2, 1) := by decide +kernel
theorem dd_L_law_1921 : decode Y_L_law.2.1 1921 = .ok (.iadd, 1) := by decide +kernel
theorem dd_L_law_1922 : decode Y_L_law.2.1 1922 = .ok (.iaload, 1) := by decide +kernel
theorem dd_L_law_1923 : decode Y_L_law.2.1 1923 = .ok (.aload_n 0, 1) := by decide +kernel
theorem dd_L_law_1924 : decode Y_L_law.2.1 1924 = .ok (.iload 4, 2) := by decide +kernel
theorem dd_L_law_1926 : decode Y_L_law.2.1 1926 = .ok (.iconst 3, 1) := by decide +kernel
theorem dd_L_law_1927 : decode Y_L_law.2.1 1927 = .ok (.iadd, 1) := by decide +kernel
theorem dd_L_law_1928 : decode Y_L_law.2.1 1928 = .ok (.iaload, 1) := by decide +kernel
theorem dd_L_law_1929 : decode Y_L_law.2.1 1929 = .ok (.invokevirtual 211, 3) := by decide +kernel
theorem dd_L_law_1932 : decode Y_L_law.2.1 1932 = .ok (.istore 6, 2) := by decide +kernel
theorem dd_L_law_1934 : decode Y_L_law.2.1 1934 = .ok (.aload_n 2, 1) := by decide +kernel
theorem dd_L_law_1935 : decode Y_L_law.2.1 1935 = .ok (.invokevirtual 117, 3) := by decide +kernel
theorem dd_L_law_1938 : decode Y_L_law.2.1 1938 = .ok (.iload 5, 2) := by decide +kernel
theorem dd_L_law_1940 : decode Y_L_law.2.1 1940 = .ok (.if_icmp .eq 5, 3) := by decide +kernel
theorem dd_L_law_1943 : decode Y_L_law.2.1 1943 = .ok (.iconst 0, 1) := by decide +kernel
theorem dd_L_law_1944 : decode Y_L_law.2.1 1944 = .ok (.ireturn, 1) := by decide +kernel
theorem dd_L_law_1945 : decode Y_L_law.2.1 1945 = .ok (.iload 5, 2) := by decide +kernel
theorem dd_L_law_1947 : decode Y_L_law.2.1 1947 = .ok (.ifCond .ne 15, 3) := by decide +kernel
theorem dd_L_law_1950 : decode Y_L_law.2.1 1950 = .ok (.aload_n 3, 1) := by decide +kernel
theorem dd_L_law_1951 : decode Y_L_law.2.1 1951 = .ok (.iconst 0, 1) := by decide +kernel
theorem dd_L_law_1952 : decode Y_L_law.2.1 1952 = .ok (.laload, 1) := by decide +kernel
theorem dd_L_law_1953 : decode Y_L_law.2.1 1953 = .ok (.iload 6, 2) := by decide +kernel
theorem dd_L_law_1955 : decode Y_L_law.2.1 1955 = .ok (.i2l, 1) := by decide +kernel
theorem dd_L_law_1956 : decode Y_L_law.2.1 1956 = .ok (.lcmp, 1) := by decide +kernel
theorem dd_L_law_1957 : decode Y_L_law.2.1 1957 = .ok (.ifCond .eq 5, 3) := by decide +kernel
theorem dd_L_law_1960 : decode Y_L_law.2.1 1960 = .ok (.iconst 0, 1) := by decide +kernel
theorem dd_L_law_1961 : decode Y_L_law.2.1 1961 = .ok (.ireturn, 1) := by decide +kernel
theorem dd_L_law_1962 : decode Y_L_law.2.1 1962 = .ok (.goto 299, 3) := by decide +kernel
theorem dd_L_law_1965 : decode Y_L_law.2.1 1965 = .ok (.aload_n 1, 1) := by decide +kernel
theorem dd_L_law_1966 : decode Y_L_law.2.1 1966 = .ok (.aload_n 0, 1) := by decide +kernel
theorem dd_L_law_1967 : decode Y_L_law.2.1 1967 = .ok (.iload 4, 2) := by decide +kernel
theorem dd_L_law_1969 : decode Y_L_law.2.1 1969 = .ok (.iconst 1, 1) := by decide +kernel
theorem dd_L_law_1970 : decode Y_L_law.2.1 1970 = .ok (.iadd, 1) := by decide +kernel
theorem dd_L_law_1971 : decode Y_L_law.2.1 1971 = .ok (.iaload, 1) := by decide +kernel
theorem dd_L_law_1972 : decode Y_L_law.2.1 1972 = .ok (.aload_n 0, 1) := by decide +kernel
theorem dd_L_law_1973 : decode Y_L_law.2.1 1973 = .ok (.iload 4, 2) := by decide +kernel
theorem dd_L_law_1975 : decode Y_L_law.2.1 1975 = .ok (.iconst 2, 1) := by decide +kernel
theorem dd_L_law_1976 : decode Y_L_law.2.1 1976 = .ok (.iadd, 1) := by decide +kernel
theorem dd_L_law_1977 : decode Y_L_law.2.1 1977 = .ok (.iaload, 1) := by decide +kernel
theorem dd_L_law_1978 : decode Y_L_law.2.1 1978 = .ok (.aload_n 0, 1) := by decide +kernel
theorem dd_L_law_1979 : decode Y_L_law.2.1 1979 = .ok (.iload 4, 2) := by decide +kernel
theorem dd_L_law_1981 : decode Y_L_law.2.1 1981 = .ok (.iconst 3, 1) := by decide +kernel
theorem dd_L_law_1982 : decode Y_L_law.2.1 1982 = .ok (.iadd, 1) := by decide +kernel
theorem dd_L_law_1983 : decode Y_L_law.2.1 1983 = .ok (.iaload, 1) := by decide +kernel
theorem dd_L_law_1984 : decode Y_L_law.2.1 1984 = .ok (.aload_n 3, 1) := by decide +kernel
theorem dd_L_law_1985 : decode Y_L_law.2.1 1985 = .ok (.invokestatic 212, 3) := by decide +kernel
theorem dd_L_law_1988 : decode Y_L_law.2.1 1988 = .ok (.istore 5, 2) := by decide +kernel
theorem dd_L_law_1990 : decode Y_L_law.2.1 1990 = .ok (.aload_n 2, 1) := by decide +kernel
theorem dd_L_law_1991 : decode Y_L_law.2.1 1991 = .ok (.aload_n 0, 1) := by decide +kernel
theorem dd_L_law_1992 : decode Y_L_law.2.1 1992 = .ok (.iload 4, 2) := by decide +kernel
theorem dd_L_law_1994 : decode Y_L_law.2.1 1994 = .ok (.iconst 1, 1) := by decide +kernel
theorem dd_L_law_1995 : decode Y_L_law.2.1 1995 = .ok (.iadd, 1) := by decide +kernel
theorem dd_L_law_1996 : decode Y_L_law.2.1 1996 = .ok (.iaload, 1) := by decide +kernel
theorem dd_L_law_1997 : decode Y_L_law.2.1 1997 = .ok (.aload_n 0, 1) := by decide +kernel
theorem dd_L_law_1998 : decode Y_L_law.2.1 1998 = .ok (.iload 4, 2) := by decide +kernel
theorem dd_L_law_2000 : decode Y_L_law.2.1 2000 = .ok (.iconst 2, 1) := by decide +kernel
theorem dd_L_law_2001 : decode Y_L_law.2.1 2001 = .ok (.iadd, 1) := by decide +kernel
