theorem d_Mo_init_652 : decode b_Mo_init 652 = .ok (.iastore, 1) := by decide +kernel
theorem d_Mo_init_653 : decode b_Mo_init 653 = .ok (.dup, 1) := by decide +kernel
theorem d_Mo_init_654 : decode b_Mo_init 654 = .ok (.iconst 5, 1) := by decide +kernel
theorem d_Mo_init_655 : decode b_Mo_init 655 = .ok (.bipush 112, 2) := by decide +kernel
theorem d_Mo_init_657 : decode b_Mo_init 657 = .ok (.iastore, 1) := by decide +kernel
theorem d_Mo_init_658 : decode b_Mo_init 658 = .ok (.dup, 1) := by decide +kernel
theorem d_Mo_init_659 : decode b_Mo_init 659 = .ok (.bipush 6, 2) := by decide +kernel
theorem d_Mo_init_661 : decode b_Mo_init 661 = .ok (.bipush 97, 2) := by decide +kernel
theorem d_Mo_init_663 : decode b_Mo_init 663 = .ok (.iastore, 1) := by decide +kernel
theorem d_Mo_init_664 : decode b_Mo_init 664 = .ok (.dup, 1) := by decide +kernel
theorem d_Mo_init_665 : decode b_Mo_init 665 = .ok (.bipush 7, 2) := by decide +kernel
theorem d_Mo_init_667 : decode b_Mo_init 667 = .ok (.bipush 114, 2) := by decide +kernel
theorem d_Mo_init_669 : decode b_Mo_init 669 = .ok (.iastore, 1) := by decide +kernel
theorem d_Mo_init_670 : decode b_Mo_init 670 = .ok (.dup, 1) := by decide +kernel
theorem d_Mo_init_671 : decode b_Mo_init 671 = .ok (.bipush 8, 2) := by decide +kernel
theorem d_Mo_init_673 : decode b_Mo_init 673 = .ok (.bipush 116, 2) := by decide +kernel
theorem d_Mo_init_675 : decode b_Mo_init 675 = .ok (.iastore, 1) := by decide +kernel
theorem d_Mo_init_676 : decode b_Mo_init 676 = .ok (.dup, 1) := by decide +kernel
theorem d_Mo_init_677 : decode b_Mo_init 677 = .ok (.bipush 9, 2) := by decide +kernel
theorem d_Mo_init_679 : decode b_Mo_init 679 = .ok (.bipush 47, 2) := by decide +kernel
theorem d_Mo_init_681 : decode b_Mo_init 681 = .ok (.iastore, 1) := by decide +kernel
theorem d_Mo_init_682 : decode b_Mo_init 682 = .ok (.putfield 37, 3) := by decide +kernel
theorem d_Mo_init_685 : decode b_Mo_init 685 = .ok (.aload_n 0, 1) := by decide +kernel
theorem d_Mo_init_686 : decode b_Mo_init 686 = .ok (.bipush 16, 2) := by decide +kernel
theorem d_Mo_init_688 : decode b_Mo_init 688 = .ok (.newarray .int, 2) := by decide +kernel
theorem d_Mo_init_690 : decode b_Mo_init 690 = .ok (.dup, 1) := by decide +kernel
theorem d_Mo_init_691 : decode b_Mo_init 691 = .ok (.iconst 0, 1) := by decide +kernel
theorem d_Mo_init_692 : decode b_Mo_init 692 = .ok (.bipush 109, 2) := by decide +kernel
theorem d_Mo_init_694 : decode b_Mo_init 694 = .ok (.iastore, 1) := by decide +kernel
theorem d_Mo_init_695 : decode b_Mo_init 695 = .ok (.dup, 1) := by decide +kernel
theorem d_Mo_init_696 : decode b_Mo_init 696 = .ok (.iconst 1, 1) := by decide +kernel
theorem d_Mo_init_697 : decode b_Mo_init 697 = .ok (.bipush 117, 2) := by decide +kernel
theorem d_Mo_init_699 : decode b_Mo_init 699 = .ok (.iastore, 1) := by decide +kernel
theorem d_Mo_init_700 : decode b_Mo_init 700 = .ok (.dup, 1) := by decide +kernel
theorem d_Mo_init_701 : decode b_Mo_init 701 = .ok (.iconst 2, 1) := by decide +kernel
theorem d_Mo_init_702 : decode b_Mo_init 702 = .ok (.bipush 108, 2) := by decide +kernel
theorem d_Mo_init_704 : decode b_Mo_init 704 = .ok (.iastore, 1) := by decide +kernel
theorem d_Mo_init_705 : decode b_Mo_init 705 = .ok (.dup, 1) := by decide +kernel
theorem d_Mo_init_706 : decode b_Mo_init 706 = .ok (.iconst 3, 1) := by decide +kernel
theorem d_Mo_init_707 : decode b_Mo_init 707 = .ok (.bipush 116, 2) := by decide +kernel
theorem d_Mo_init_709 : decode b_Mo_init 709 = .ok (.iastore, 1) := by decide +kernel
theorem d_Mo_init_710 : decode b_Mo_init 710 = .ok (.dup, 1) := by decide +kernel
theorem d_Mo_init_711 : decode b_Mo_init 711 = .ok (.iconst 4, 1) := by decide +kernel
theorem d_Mo_init_712 : decode b_Mo_init 712 = .ok (.bipush 105, 2) := by decide +kernel
theorem d_Mo_init_714 : decode b_Mo_init 714 = .ok (.iastore, 1) := by decide +kernel
theorem d_Mo_init_715 : decode b_Mo_init 715 = .ok (.dup, 1) := by decide +kernel
theorem d_Mo_init_716 : decode b_Mo_init 716 = .ok (.iconst 5, 1) := by decide +kernel
theorem d_Mo_init_717 : decode b_Mo_init 717 = .ok (.bipush 112, 2) := by decide +kernel
theorem d_Mo_init_719 : decode b_Mo_init 719 = .ok (.iastore, 1) := by decide +kernel
theorem d_Mo_init_720 : decode b_Mo_init 720 = .ok (.dup, 1) := by decide +kernel
theorem d_Mo_init_721 : decode b_Mo_init 721 = .ok (.bipush 6, 2) := by decide +kernel
theorem d_Mo_init_723 : decode b_Mo_init 723 = .ok (.bipush 97, 2) := by decide +kernel
theorem d_Mo_init_725 : decode b_Mo_init 725 = .ok (.iastore, 1) := by decide +kernel
theorem d_Mo_init_726 : decode b_Mo_init 726 = .ok (.dup, 1) := by decide +kernel
theorem d_Mo_init_727 : decode b_Mo_init 727 = .ok (.bipush 7, 2) := by decide +kernel
theorem d_Mo_init_729 : decode b_Mo_init 729 = .ok (.bipush 114, 2) := by decide +kernel
theorem d_Mo_init_731 : decode b_Mo_init 731 = .ok (.iastore, 1) := by decide +kernel
theorem d_Mo_init_732 : decode b_Mo_init 732 = .ok (.dup, 1) := by decide +kernel
theorem d_Mo_init_733 : decode b_Mo_init 733 = .ok (.bipush 8, 2) := by decide +kernel
theorem d_Mo_init_735 : decode b_Mo_init 735 = .ok (.bipush 116, 2) := by decide +kernel
theorem d_Mo_init_737 : decode b_Mo_init 737 = .ok (.iastore, 1) := by decide +kernel
theorem d_Mo_init_738 : decode b_Mo_init 738 = .ok (.dup, 1) := by decide +kernel
theorem d_Mo_init_739 : decode b_Mo_init 739 = .ok (.bipush 9, 2) := by decide +kernel
theorem d_Mo_init_741 : decode b_Mo_init 741 = .ok (.bipush 47, 2) := by decide +kernel
theorem d_Mo_init_743 : decode b_Mo_init 743 = .ok (.iastore, 1) := by decide +kernel
theorem d_Mo_init_744 : decode b_Mo_init 744 = .ok (.dup, 1) := by decide +kernel
theorem d_Mo_init_745 : decode b_Mo_init 745 = .ok (.bipush 10, 2) := by decide +kernel
theorem d_Mo_init_747 : decode b_Mo_init 747 = .ok (.bipush 100, 2) := by decide +kernel
theorem d_Mo_init_749 : decode b_Mo_init 749 = .ok (.iastore, 1) := by decide +kernel
theorem d_Mo_init_750 : decode b_Mo_init 750 = .ok (.dup, 1) := by decide +kernel
theorem d_Mo_init_751 : decode b_Mo_init 751 = .ok (.bipush 11, 2) := by decide +kernel
theorem d_Mo_init_753 : decode b_Mo_init 753 = .ok (.bipush 105, 2) := by decide +kernel
theorem d_Mo_init_755 : decode b_Mo_init 755 = .ok (.iastore, 1) := by decide +kernel
theorem d_Mo_init_756 : decode b_Mo_init 756 = .ok (.dup, 1) := by decide +kernel
theorem d_Mo_init_757 : decode b_Mo_init 757 = .ok (.bipush 12, 2) := by decide +kernel
theorem d_Mo_init_759 : decode b_Mo_init 759 = .ok (.bipush 103, 2) := by decide +kernel
theorem d_Mo_init_761 : decode b_Mo_init 761 = .ok (.iastore, 1) := by decide +kernel
theorem d_Mo_init_762 : decode b_Mo_init 762 = .ok (.dup, 1) := by decide +kernel
theorem d_Mo_init_763 : decode b_Mo_init 763 = .ok (.bipush 13, 2) := by decide +kernel
theorem d_Mo_init_765 : decode b_Mo_init 765 = .ok (.bipush 101, 2) := by decide +kernel
theorem d_Mo_init_767 : decode b_Mo_init 767 = .ok (.iastore, 1) := by decide +kernel
theorem d_Mo_init_768 : decode b_Mo_init 768 = .ok (.dup, 1) := by decide +kernel
theorem d_Mo_init_769 : decode b_Mo_init 769 = .ok (.bipush 14, 2) := by decide +kernel
theorem d_Mo_init_771 : decode b_Mo_init 771 = .ok (.bipush 115, 2) := by decide +kernel
theorem d_Mo_init_773 : decode b_Mo_init 773 = .ok (.iastore, 1) := by decide +kernel
theorem d_Mo_init_774 : decode b_Mo_init 774 = .ok (.dup, 1) := by decide +kernel
theorem d_Mo_init_775 : decode b_Mo_init 775 = .ok (.bipush 15, 2) := by decide +kernel
theorem d_Mo_init_777 : decode b_Mo_init 777 = .ok (.bipush 116, 2) := by decide +kernel
theorem d_Mo_init_779 : decode b_Mo_init 779 = .ok (.iastore, 1) := by decide +kernel
theorem d_Mo_init_780 : decode b_Mo_init 780 = .ok (.putfield 40, 3) := by decide +kernel
theorem d_Mo_init_783 : decode b_Mo_init 783 = .ok (.aload_n 0, 1) := by decide +kernel
theorem d_Mo_init_784 : decode b_Mo_init 784 = .ok (.bipush 21, 2) := by decide +kernel
theorem d_Mo_init_786 : decode b_Mo_init 786 = .ok (.newarray .int, 2) := by decide +kernel
theorem d_Mo_init_788 : decode b_Mo_init 788 = .ok (.dup, 1) := by decide +kernel
theorem d_Mo_init_789 : decode b_Mo_init 789 = .ok (.iconst 0, 1) := by decide +kernel
theorem d_Mo_init_790 : decode b_Mo_init 790 = .ok (.bipush 109, 2) := by decide +kernel
theorem d_Mo_init_792 : decode b_Mo_init 792 = .ok (.iastore, 1) := by decide +kernel
theorem d_Mo_init_793 : decode b_Mo_init 793 = .ok (.dup, 1) := by decide +kernel
theorem d_Mo_init_794 : decode b_Mo_init 794 = .ok (.iconst 1, 1) := by decide +kernel
theorem d_Mo_init_795 : decode b_Mo_init 795 = .ok (.bipush 117, 2) := by decide +kernel
theorem d_Mo_init_797 : decode b_Mo_init 797 = .ok (.iastore, 1) := by decide +kernel
theorem d_Mo_init_798 : decode b_Mo_init 798 = .ok (.dup, 1) := by decide +kernel
theorem d_Mo_init_799 : decode b_Mo_init 799 = .ok (.iconst 2, 1) := by decide +kernel
theorem d_Mo_init_800 : decode b_Mo_init 800 = .ok (.bipush 108, 2) := by decide +kernel
theorem d_Mo_init_802 : decode b_Mo_init 802 = .ok (.iastore, 1) := by decide +kernel
theorem d_Mo_init_803 : decode b_Mo_init 803 = .ok (.dup, 1) := by decide +kernel
theorem d_Mo_init_804 : decode b_Mo_init 804 = .ok (.iconst 3, 1) := by decide +kernel
theorem d_Mo_init_805 : decode b_Mo_init 805 = .ok (.bipush 116, 2) := by decide +kernel
theorem d_Mo_init_807 : decode b_Mo_init 807 = .ok (.iastore, 1) := by decide +kernel
theorem d_Mo_init_808 : decode b_Mo_init 808 = .ok (.dup, 1) := by decide +kernel
theorem d_Mo_init_809 : decode b_Mo_init 809 = .ok (.iconst 4, 1) := by decide +kernel
theorem d_Mo_init_810 : decode b_Mo_init 810 = .ok (.bipush 105, 2) := by decide +kernel
theorem d_Mo_init_812 : decode b_Mo_init 812 = .ok (.iastore, 1) := by decide +kernel
theorem d_Mo_init_813 : decode b_Mo_init 813 = .ok (.dup, 1) := by decide +kernel
theorem d_Mo_init_814 : decode b_Mo_init 814 = .ok (.iconst 5, 1) := by decide +kernel
theorem d_Mo_init_815 : decode b_Mo_init 815 = .ok (.bipush 112, 2) := by decide +kernel
theorem d_Mo_init_817 : decode b_Mo_init 817 = .ok (.iastore, 1) := by decide +kernel
theorem d_Mo_init_818 : decode b_Mo_init 818 = .ok (.dup, 1) := by decide +kernel
theorem d_Mo_init_819 : decode b_Mo_init 819 = .ok (.bipush 6, 2) := by decide +kernel
theorem d_Mo_init_821 : decode b_Mo_init 821 = .ok (.bipush 97, 2) := by decide +kernel
theorem d_Mo_init_823 : decode b_Mo_init 823 = .ok (.iastore, 1) := by decide +kernel
theorem d_Mo_init_824 : decode b_Mo_init 824 = .ok (.dup, 1) := by decide +kernel
theorem d_Mo_init_825 : decode b_Mo_init 825 = .ok (.bipush 7, 2) := by decide +kernel
theorem d_Mo_init_827 : decode b_Mo_init 827 = .ok (.bipush 114, 2) := by decide +kernel
theorem d_Mo_init_829 : decode b_Mo_init 829 = .ok (.iastore, 1) := by decide +kernel
theorem d_Mo_init_830 : decode b_Mo_init 830 = .ok (.dup, 1) := by decide +kernel
theorem d_Mo_init_831 : decode b_Mo_init 831 = .ok (.bipush 8, 2) := by decide +kernel
theorem d_Mo_init_833 : decode b_Mo_init 833 = .ok (.bipush 116, 2) := by decide +kernel
theorem d_Mo_init_835 : decode b_Mo_init 835 = .ok (.iastore, 1) := by decide +kernel
theorem d_Mo_init_836 : decode b_Mo_init 836 = .ok (.dup, 1) := by decide +kernel
theorem d_Mo_init_837 : decode b_Mo_init 837 = .ok (.bipush 9, 2) := by decide +kernel
theorem d_Mo_init_839 : decode b_Mo_init 839 = .ok (.bipush 47, 2) := by decide +kernel
theorem d_Mo_init_841 : decode b_Mo_init 841 = .ok (.iastore, 1) := by decide +kernel
theorem d_Mo_init_842 : decode b_Mo_init 842 = .ok (.dup, 1) := by decide +kernel
theorem d_Mo_init_843 : decode b_Mo_init 843 = .ok (.bipush 10, 2) := by decide +kernel
theorem d_Mo_init_845 : decode b_Mo_init 845 = .ok (.bipush 97, 2) := by decide +kernel
theorem d_Mo_init_847 : decode b_Mo_init 847 = .ok (.iastore, 1) := by decide +kernel
theorem d_Mo_init_848 : decode b_Mo_init 848 = .ok (.dup, 1) := by decide +kernel
theorem d_Mo_init_849 : decode b_Mo_init 849 = .ok (.bipush 11, 2) := by decide +kernel
theorem d_Mo_init_851 : decode b_Mo_init 851 = .ok (.bipush 108, 2) := by decide +kernel
theorem d_Mo_init_853 : decode b_Mo_init 853 = .ok (.iastore, 1) := by decide +kernel
theorem d_Mo_init_854 : decode b_Mo_init 854 = .ok (.dup, 1) := by decide +kernel
theorem d_Mo_init_855 : decode b_Mo_init 855 = .ok (.bipush 12, 2) := by decide +kernel
theorem d_Mo_init_857 : decode b_Mo_init 857 = .ok (.bipush 116, 2) := by decide +kernel
theorem d_Mo_init_859 : decode b_Mo_init 859 = .ok (.iastore, 1) := by decide +kernel
theorem d_Mo_init_860 : decode b_Mo_init 860 = .ok (.dup, 1) := by decide +kernel
theorem d_Mo_init_861 : decode b_Mo_init 861 = .ok (.bipush 13, 2) := by decide +kernel
theorem d_Mo_init_863 : decode b_Mo_init 863 = .ok (.bipush 101, 2) := by decide +kernel
theorem d_Mo_init_865 : decode b_Mo_init 865 = .ok (.iastore, 1) := by decide +kernel
theorem d_Mo_init_866 : decode b_Mo_init 866 = .ok (.dup, 1) := by decide +kernel
theorem d_Mo_init_867 : decode b_Mo_init 867 = .ok (.bipush 14, 2) := by decide +kernel
theorem d_Mo_init_869 : decode b_Mo_init 869 = .ok (.bipush 114, 2) := by decide +kernel
theorem d_Mo_init_871 : decode b_Mo_init 871 = .ok (.iastore, 1) := by decide +kernel
theorem d_Mo_init_872 : decode b_Mo_init 872 = .ok (.dup, 1) := by decide +kernel
theorem d_Mo_init_873 : decode b_Mo_init 873 = .ok (.bipush 15, 2) := by decide +kernel
theorem d_Mo_init_875 : decode b_Mo_init 875 = .ok (.bipush 110, 2) := by decide +kernel
theorem d_Mo_init_877 : decode b_Mo_init 877 = .ok (.iastore, 1) := by decide +kernel
theorem d_Mo_init_878 : decode b_Mo_init 878 = .ok (.dup, 1) := by decide +kernel
theorem d_Mo_init_879 : decode b_Mo_init 879 = .ok (.bipush 16, 2) := by decide +kernel
theorem d_Mo_init_881 : decode b_Mo_init 881 = .ok (.bipush 97, 2) := by decide +kernel
theorem d_Mo_init_883 : decode b_Mo_init 883 = .ok (.iastore, 1) := by decide +kernel
theorem d_Mo_init_884 : decode b_Mo_init 884 = .ok (.dup, 1) := by decide +kernel
theorem d_Mo_init_885 : decode b_Mo_init 885 = .ok (.bipush 17, 2) := by decide +kernel
theorem d_Mo_init_887 : decode b_Mo_init 887 = .ok (.bipush 116, 2) := by decide +kernel
theorem d_Mo_init_889 : decode b_Mo_init 889 = .ok (.iastore, 1) := by decide +kernel
theorem d_Mo_init_890 : decode b_Mo_init 890 = .ok (.dup, 1) := by decide +kernel
theorem d_Mo_init_891 : decode b_Mo_init 891 = .ok (.bipush 18, 2) := by decide +kernel
theorem d_Mo_init_893 : decode b_Mo_init 893 = .ok (.bipush 105, 2) := by decide +kernel
theorem d_Mo_init_895 : decode b_Mo_init 895 = .ok (.iastore, 1) := by decide +kernel
theorem d_Mo_init_896 : decode b_Mo_init 896 = .ok (.dup, 1) := by decide +kernel
theorem d_Mo_init_897 : decode b_Mo_init 897 = .ok (.bipush 19, 2) := by decide +kernel
theorem d_Mo_init_899 : decode b_Mo_init 899 = .ok (.bipush 118, 2) := by decide +kernel
theorem d_Mo_init_901 : decode b_Mo_init 901 = .ok (.iastore, 1) := by decide +kernel
theorem d_Mo_init_902 : decode b_Mo_init 902 = .ok (.dup, 1) := by decide +kernel
theorem d_Mo_init_903 : decode b_Mo_init 903 = .ok (.bipush 20, 2) := by decide +kernel
theorem d_Mo_init_905 : decode b_Mo_init 905 = .ok (.bipush 101, 2) := by decide +kernel
theorem d_Mo_init_907 : decode b_Mo_init 907 = .ok (.iastore, 1) := by decide +kernel
theorem d_Mo_init_908 : decode b_Mo_init 908 = .ok (.putfield 43, 3) := by decide +kernel
theorem d_Mo_init_911 : decode b_Mo_init 911 = .ok (.aload_n 0, 1) := by decide +kernel
theorem d_Mo_init_912 : decode b_Mo_init 912 = .ok (.bipush 14, 2) := by decide +kernel
theorem d_Mo_init_914 : decode b_Mo_init 914 = .ok (.newarray .int, 2) := by decide +kernel
theorem d_Mo_init_916 : decode b_Mo_init 916 = .ok (.dup, 1) := by decide +kernel
theorem d_Mo_init_917 : decode b_Mo_init 917 = .ok (.iconst 0, 1) := by decide +kernel
theorem d_Mo_init_918 : decode b_Mo_init 918 = .ok (.bipush 109, 2) := by decide +kernel
theorem d_Mo_init_920 : decode b_Mo_init 920 = .ok (.iastore, 1) := by decide +kernel
theorem d_Mo_init_921 : decode b_Mo_init 921 = .ok (.dup, 1) := by decide +kernel
theorem d_Mo_init_922 : decode b_Mo_init 922 = .ok (.iconst 1, 1) := by decide +kernel
theorem d_Mo_init_923 : decode b_Mo_init 923 = .ok (.bipush 101, 2) := by decide +kernel
theorem d_Mo_init_925 : decode b_Mo_init 925 = .ok (.iastore, 1) := by decide +kernel
theorem d_Mo_init_926 : decode b_Mo_init 926 = .ok (.dup, 1) := by decide +kernel
theorem d_Mo_init_927 : decode b_Mo_init 927 = .ok (.iconst 2, 1) := by decide +kernel
theorem d_Mo_init_928 : decode b_Mo_init 928 = .ok (.bipush 115, 2) := by decide +kernel
theorem d_Mo_init_930 : decode b_Mo_init 930 = .ok (.iastore, 1) := by decide +kernel
theorem d_Mo_init_931 : decode b_Mo_init 931 = .ok (.dup, 1) := by decide +kernel
theorem d_Mo_init_932 : decode b_Mo_init 932 = .ok (.iconst 3, 1) := by decide +kernel
theorem d_Mo_init_933 : decode b_Mo_init 933 = .ok (.bipush 115, 2) := by decide +kernel
theorem d_Mo_init_935 : decode b_Mo_init 935 = .ok (.iastore, 1) := by decide +kernel
theorem d_Mo_init_936 : decode b_Mo_init 936 = .ok (.dup, 1) := by decide +kernel
theorem d_Mo_init_937 : decode b_Mo_init 937 = .ok (.iconst 4, 1) := by decide +kernel
theorem d_Mo_init_938 : decode b_Mo_init 938 = .ok (.bipush 97, 2) := by decide +kernel
theorem d_Mo_init_940 : decode b_Mo_init 940 = .ok (.iastore, 1) := by decide +kernel
theorem d_Mo_init_941 : decode b_Mo_init 941 = .ok (.dup, 1) := by decide +kernel
theorem d_Mo_init_942 : decode b_Mo_init 942 = .ok (.iconst 5, 1) := by decide +kernel
theorem d_Mo_init_943 : decode b_Mo_init 943 = .ok (.bipush 103, 2) := by decide +kernel
theorem d_Mo_init_945 : decode b_Mo_init 945 = .ok (.iastore, 1) := by decide +kernel
theorem d_Mo_init_946 : decode b_Mo_init 946 = .ok (.dup, 1) := by decide +kernel
theorem d_Mo_init_947 : decode b_Mo_init 947 = .ok (.bipush 6, 2) := by decide +kernel
theorem d_Mo_init_949 : decode b_Mo_init 949 = .ok (.bipush 101, 2) := by decide +kernel
theorem d_Mo_init_951 : decode b_Mo_init 951 = .ok (.iastore, 1) := by decide +kernel
theorem d_Mo_init_952 : decode b_Mo_init 952 = .ok (.dup, 1) := by decide +kernel
theorem d_Mo_init_953 : decode b_Mo_init 953 = .ok (.bipush 7, 2) := by decide +kernel
theorem d_Mo_init_955 : decode b_Mo_init 955 = .ok (.bipush 47, 2) := by decide +kernel
theorem d_Mo_init_957 : decode b_Mo_init 957 = .ok (.iastore, 1) := by decide +kernel
theorem d_Mo_init_958 : decode b_Mo_init 958 = .ok (.dup, 1) := by decide +kernel
theorem d_Mo_init_959 : decode b_Mo_init 959 = .ok (.bipush 8, 2) := by decide +kernel
theorem d_Mo_init_961 : decode b_Mo_init 961 = .ok (.bipush 114, 2) := by decide +kernel
theorem d_Mo_init_963 : decode b_Mo_init 963 = .ok (.iastore, 1) := by decide +kernel
theorem d_Mo_init_964 : decode b_Mo_init 964 = .ok (.dup, 1) := by decide +kernel
theorem d_Mo_init_965 : decode b_Mo_init 965 = .ok (.bipush 9, 2) := by decide +kernel
theorem d_Mo_init_967 : decode b_Mo_init 967 = .ok (.bipush 102, 2) := by decide +kernel
theorem d_Mo_init_969 : decode b_Mo_init 969 = .ok (.iastore, 1) := by decide +kernel
theorem d_Mo_init_970 : decode b_Mo_init 970 = .ok (.dup, 1) := by decide +kernel
theorem d_Mo_init_971 : decode b_Mo_init 971 = .ok (.bipush 10, 2) := by decide +kernel
theorem d_Mo_init_973 : decode b_Mo_init 973 = .ok (.bipush 99, 2) := by decide +kernel
theorem d_Mo_init_975 : decode b_Mo_init 975 = .ok (.iastore, 1) := by decide +kernel
theorem d_Mo_init_976 : decode b_Mo_init 976 = .ok (.dup, 1) := by decide +kernel
theorem d_Mo_init_977 : decode b_Mo_init 977 = .ok (.bipush 11, 2) := by decide +kernel
theorem d_Mo_init_979 : decode b_Mo_init 979 = .ok (.bipush 56, 2) := by decide +kernel
theorem d_Mo_init_981 : decode b_Mo_init 981 = .ok (.iastore, 1) := by decide +kernel
theorem d_Mo_init_982 : decode b_Mo_init 982 = .ok (.dup, 1) := by decide +kernel
